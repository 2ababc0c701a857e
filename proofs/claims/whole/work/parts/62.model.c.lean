/-! X8_stateCount -/
set_option maxHeartbeats 4000000 in
set_option maxRecDepth 100000 in
theorem c_X8_stateCount (l : Launch) (D : va_G) (cI cZ cJ : ClassId) {ad : Nat → Nat} {x_thrown : Int} {x_buffered : Int} {x_given : Int} {x_isFolding : Int} {x_work : Int} {x_rebuilt : Int} {x_streamed : Int} {x_reports : Int} {x_gapFrom : Int} {x_gapSize : Int} {x_elements : Int} {x_wholeSize : Int} {x_isLaid : Int} {x_takenMany : Int} {a_buffer : (Int → Int)} {a_length : (Int → Int)} {a_bytes : (Int → Int)} {a_weight : (Int → Int)} {a_live : (Int → Int)} {a_size : (Int → Int)} {a_list : (Int → Int)} {a_moved : (Int → Int)} {a_planned : (Int → Int)} {a_stream : (Int → Int)} {a_reportedEnd : (Int → Int)} {a_reportedKeyword : (Int → Int)} {a_starts : (Int → Int)} {a_keywordAt : (Int → Int)} {a_element : (Int → Int)} {a_long1 : (Int → Int)} {a_head : (Int → Int)} {a_tail : (Int → Int)} {a_next : (Int → Int)} {a_skip : (Int → Int)} {a_last : (Int → Int)} {a_whole : (Int → Int)} {a_edges : (Int → Int)} {a_covers : (Int → Int)} {a_weighs : (Int → Int)} {a_numbers : (Int → Int)} {a_takes : (Int → Int)} {a_takenAt : (Int → Int)} {pz1 : Int} {r : Int} {y_x_thrown : Int} {sz : Nat} (hs : s_X8_stateCount x_thrown x_isFolding a_length a_bytes a_size a_list pz1 = some (r, y_x_thrown)) : Met l yX8_stateCount wsX8_stateCount rm_X8_stateCount (PW D vwCl [(cI, .int), (cZ, .boolean), (cJ, .long)] [.ref (ad 0), .int (iI pz1)] (wM cI cZ cJ ad x_thrown x_buffered x_given x_isFolding x_work x_rebuilt x_streamed x_reports x_gapFrom x_gapSize x_elements x_wholeSize x_isLaid x_takenMany a_buffer a_length a_bytes a_weight a_live a_size a_list a_moved a_planned a_stream a_reportedEnd a_reportedKeyword a_starts a_keywordAt a_element a_long1 a_head a_tail a_next a_skip a_last a_whole a_edges a_covers a_weighs a_numbers a_takes a_takenAt) sz) (QW D vwCl (some (.int (iI r))) (wM cI cZ cJ ad y_x_thrown x_buffered x_given x_isFolding x_work x_rebuilt x_streamed x_reports x_gapFrom x_gapSize x_elements x_wholeSize x_isLaid x_takenMany a_buffer a_length a_bytes a_weight a_live a_size a_list a_moved a_planned a_stream a_reportedEnd a_reportedKeyword a_starts a_keywordAt a_element a_long1 a_head a_tail a_next a_skip a_last a_whole a_edges a_covers a_weighs a_numbers a_takes a_takenAt) (va_A (wM cI cZ cJ ad x_thrown x_buffered x_given x_isFolding x_work x_rebuilt x_streamed x_reports x_gapFrom x_gapSize x_elements x_wholeSize x_isLaid x_takenMany a_buffer a_length a_bytes a_weight a_live a_size a_list a_moved a_planned a_stream a_reportedEnd a_reportedKeyword a_starts a_keywordAt a_element a_long1 a_head a_tail a_next a_skip a_last a_whole a_edges a_covers a_weighs a_numbers a_takes a_takenAt) sz)) 0 0 (va_A (wM cI cZ cJ ad x_thrown x_buffered x_given x_isFolding x_work x_rebuilt x_streamed x_reports x_gapFrom x_gapSize x_elements x_wholeSize x_isLaid x_takenMany a_buffer a_length a_bytes a_weight a_live a_size a_list a_moved a_planned a_stream a_reportedEnd a_reportedKeyword a_starts a_keywordAt a_element a_long1 a_head a_tail a_next a_skip a_last a_whole a_edges a_covers a_weighs a_numbers a_takes a_takenAt) sz) := by
  refine Met.ofW (cc := cX8_stateCount) (maxL := 7) (ret := (some .int)) (by decide) rfl ?_
  intro p e s m args below meth c s₁ B hml hv
  obtain ⟨hav, hsz, hP, hK, hD0⟩ := hv
  have hx := B.exec
  have hb := B.bytes
  have hr := B.returns
  have hts := atoms_spec (ws := wsX8_stateCount) B.pre
  have hown : s.vm.findClass RX8 = some m.cls := findClass_of_methodNamed B.named
  have hlk := B.notSynchronized
  have hf1 : (Cond.fieldLink RX8 1 "KeywordMatcherModel" "thrown" "I").before args s = true := hts _ (List.mem_of_getElem? (i := 1) rfl)
  have hiX8 : ∀ w ∈ wsX80, w ∈ wsX8_stateCount := fun w h => List.mem_cons_of_mem _ (List.mem_append_right _ h)
  have hf30 : (Cond.fieldLink RX8 30 "KeywordMatcherModel" "size" "[I").before args s = true := hts _ (List.mem_of_getElem? (i := 2) rfl)
  have hf33 : (Cond.fieldLink RX8 33 "KeywordMatcherModel" "list" "[I").before args s = true := hts _ (List.mem_of_getElem? (i := 3) rfl)
  have hf17 : (Cond.fieldLink RX8 17 "KeywordMatcherModel" "length" "[I").before args s = true := hts _ (List.mem_of_getElem? (i := 4) rfl)
  subst hsz
  have hD := hD0.self (sz := s.heap.size)
  generalize hAe : va_A (wM cI cZ cJ ad x_thrown x_buffered x_given x_isFolding x_work x_rebuilt x_streamed x_reports x_gapFrom x_gapSize x_elements x_wholeSize x_isLaid x_takenMany a_buffer a_length a_bytes a_weight a_live a_size a_list a_moved a_planned a_stream a_reportedEnd a_reportedKeyword a_starts a_keywordAt a_element a_long1 a_head a_tail a_next a_skip a_last a_whole a_edges a_covers a_weighs a_numbers a_takes a_takenAt) s.heap.size = Az at hD ⊢
  have hA : ∀ q : Nat, s.heap.size ≤ q → Az q := fun q h => by rw [← hAe]; exact Or.inr h
  clear hAe
  have hSz : va_S Az s.heap s.heap [] := va_S.rf
  obtain ⟨wz, hw1⟩ : ∃ z : va_W, z = (wM cI cZ cJ ad y_x_thrown x_buffered x_given x_isFolding x_work x_rebuilt x_streamed x_reports x_gapFrom x_gapSize x_elements x_wholeSize x_isLaid x_takenMany a_buffer a_length a_bytes a_weight a_live a_size a_list a_moved a_planned a_stream a_reportedEnd a_reportedKeyword a_starts a_keywordAt a_element a_long1 a_head a_tail a_next a_skip a_last a_whole a_edges a_covers a_weighs a_numbers a_takes a_takenAt) := ⟨_, rfl⟩
  rw [← hw1]
  have hl := lv_entry ([.ref (ad 0), .int (iI pz1)]) (n := 7) (Nat.le_of_ble_eq_true rfl)
  rw [show entryFrame m args 7 = entryFrame m ([.ref (ad 0), .int (iI pz1)] : List Value).toArray 7 from by rw [hav], lg_entry_eq]
  generalize (lg_sl ([.ref (ad 0), .int (iI pz1)]) ++ List.replicate (7 - (lg_sl ([.ref (ad 0), .int (iI pz1)])).length) Slot.unset).toArray = ls at hl ⊢
  have hl : lv_has ls 7 [(0, .ref (ad 0)), (1, .int (iI pz1))] := hl
  unfold s_X8_stateCount at hs
  have Lz66 : ∀ (fu : Nat) (x_thrown : Int) (l1 : Int) (l2 : Int) (l3 : Int) (l4 : Int) (l5 : Int) (l6 : Int) (y0 : Int), s_X8_stateCount_66 fu x_isFolding a_length a_bytes a_list l1 l2 l3 l4 l5 l6 = some y0 → ∀ (Hz : Heap) (lz : List Loc), va_P D vwCl (wM cI cZ cJ ad x_thrown x_buffered x_given x_isFolding x_work x_rebuilt x_streamed x_reports x_gapFrom x_gapSize x_elements x_wholeSize x_isLaid x_takenMany a_buffer a_length a_bytes a_weight a_live a_size a_list a_moved a_planned a_stream a_reportedEnd a_reportedKeyword a_starts a_keywordAt a_element a_long1 a_head a_tail a_next a_skip a_last a_whole a_edges a_covers a_weighs a_numbers a_takes a_takenAt) Hz → va_D Az (wM cI cZ cJ ad x_thrown x_buffered x_given x_isFolding x_work x_rebuilt x_streamed x_reports x_gapFrom x_gapSize x_elements x_wholeSize x_isLaid x_takenMany a_buffer a_length a_bytes a_weight a_live a_size a_list a_moved a_planned a_stream a_reportedEnd a_reportedKeyword a_starts a_keywordAt a_element a_long1 a_head a_tail a_next a_skip a_last a_whole a_edges a_covers a_weighs a_numbers a_takes a_takenAt) → va_S Az s.heap Hz lz → ∀ ls : Array Slot, lv_has ls 7 [(0, .ref (ad 0)), (1, .int (iI l1)), (2, .int (iI l2)), (3, .int (iI l3)), (4, .int (iI l4)), (5, .int (iI l5)), (6, .int (iI l6))] → (∀ (Hz : Heap) (lz : List Loc), va_P D vwCl (wM cI cZ cJ ad x_thrown x_buffered x_given x_isFolding x_work x_rebuilt x_streamed x_reports x_gapFrom x_gapSize x_elements x_wholeSize x_isLaid x_takenMany a_buffer a_length a_bytes a_weight a_live a_size a_list a_moved a_planned a_stream a_reportedEnd a_reportedKeyword a_starts a_keywordAt a_element a_long1 a_head a_tail a_next a_skip a_last a_whole a_edges a_covers a_weighs a_numbers a_takes a_takenAt) Hz → va_D Az (wM cI cZ cJ ad x_thrown x_buffered x_given x_isFolding x_work x_rebuilt x_streamed x_reports x_gapFrom x_gapSize x_elements x_wholeSize x_isLaid x_takenMany a_buffer a_length a_bytes a_weight a_live a_size a_list a_moved a_planned a_stream a_reportedEnd a_reportedKeyword a_starts a_keywordAt a_element a_long1 a_head a_tail a_next a_skip a_last a_whole a_edges a_covers a_weighs a_numbers a_takes a_takenAt) → va_S Az s.heap Hz lz → ∀ ls : Array Slot, lv_has ls 7 [(0, .ref (ad 0)), (1, .int (iI l1)), (2, .int (iI l2)), (3, .int (iI l3)), (4, .int (iI l4)), (5, .int (iI y0)), (6, .int (iI l6))] → W p l e (headSpec wsX8_stateCount rm_X8_stateCount).room s m args below meth c Hz lz 0 0 (MQ below (QW D vwCl (some (.int (iI r))) wz Az) args s 0 0 Az) (F0 m 110 ls [])) → W p l e (headSpec wsX8_stateCount rm_X8_stateCount).room s m args below meth c Hz lz 0 0 (MQ below (QW D vwCl (some (.int (iI r))) wz Az) args s 0 0 Az) (F0 m 66 ls []) := by
    intro fu
    induction fu with
    | zero => intro x_thrown l1 l2 l3 l4 l5 l6 y0 hs; cases hs
    | succ fu ih =>
      intro x_thrown l1 l2 l3 l4 l5 l6 y0 hs Hz lz hP hD hSz ls hl kx
      rw [s_X8_stateCount_66_s] at hs
      refine lv_iload hx hb dX8_stateCount_66 (lv_at hl 5 rfl) ?_
      refine lv_aload_n hx hb dX8_stateCount_68 rfl (lv_at hl 0 rfl) ?_
      refine va_get (ci := 8) (v := .ref (ad 2)) (C := RX8) (T := TX8) (N := 42) hx hb hts hiX8 hown hK hP 0 rfl rfl 3 (by decide) hf17 (fun _ h9 => h9) rfl dX8_stateCount_69 ?_
      refine lv_iload hx hb dX8_stateCount_72 (lv_at hl 4 rfl) ?_
      refine k_iald hx hb hK hP 2 0 rfl rfl (Nat.le_of_ble_eq_true rfl) hs dX8_stateCount_74 (fun vz5 hs => ?_)
      refine k_icmp_ge (tgt := 110) hx hb hs dX8_stateCount_75 (by decide) (fun hs => ?_) (fun hs => ?_)
      · refine lv_aload_n hx hb dX8_stateCount_78 rfl (lv_at hl 0 rfl) ?_
        refine lv_iload hx hb dX8_stateCount_79 (lv_at hl 4 rfl) ?_
        refine lv_aload_n hx hb dX8_stateCount_81 rfl (lv_at hl 0 rfl) ?_
        refine va_get (ci := 8) (v := .ref (ad 7)) (C := RX8) (T := TX8) (N := 42) hx hb hts hiX8 hown hK hP 0 rfl rfl 10 (by decide) hf33 (fun _ h9 => h9) rfl dX8_stateCount_82 ?_
        refine k_sipush (n := 128) hx hb (by decide) dX8_stateCount_85 ?_
        refine lv_iload_n hx hb dX8_stateCount_88 rfl (lv_at hl 1 rfl) ?_
        refine k_imul hx hb dX8_stateCount_89 ?_
        refine lv_iload hx hb dX8_stateCount_90 (lv_at hl 6 rfl) ?_
        refine k_iadd hx hb dX8_stateCount_92 ?_
        refine k_iald hx hb hK hP 7 0 rfl rfl (Nat.le_of_ble_eq_true rfl) hs dX8_stateCount_93 (fun vz6 hs => ?_)
        refine lv_iload hx hb dX8_stateCount_94 (lv_at hl 5 rfl) ?_
        refine k_iconst (n := 1) hx hb dX8_stateCount_96 ?_
        refine k_iadd hx hb dX8_stateCount_97 ?_
        obtain ⟨vz7, hcz, hs⟩ := bd1_some hs
        refine k_rV (As := [.int (iI l4), .int (iI vz6), .int (iI (l5 + 1))]) (rest := []) (st1 := [.int (iI vz7)]) ⟨hx, hb, hml, hown, hts⟩ hK hP (c_X8_areLike l D cI cZ cJ hcz) (cwV 3 hts gX8_stateCount_X8_areLike rfl rfl rfl (by decide +kernel) ⟨Nat.le_of_ble_eq_true rfl, Nat.le_of_ble_eq_true rfl⟩) 0 rfl rfl rfl rfl hl.1 rfl (lv_room (Nat.le_of_ble_eq_true rfl)) dX8_stateCount_98 ⟨Nat.zero_le _, Nat.zero_le _⟩ rfl ?_
        refine k_if_eq (tgt := 110) hx hb hs dX8_stateCount_101 (by decide) (fun hs => ?_) (fun hs => ?_)
        · cases hs
          exact kx Hz lz hP hD hSz ls (lv_sub hl [0, 1, 2, 3, 4, 5, 6] rfl)
        · refine k_iinc (x := l5) (k := 5) (lv' := [(5, .int (iI (l5 + 1))), (0, .ref (ad 0)), (1, .int (iI l1)), (2, .int (iI l2)), (3, .int (iI l3)), (4, .int (iI l4)), (6, .int (iI l6))]) hx hb dX8_stateCount_104 hl rfl (by decide) rfl (fun ls hl => ?_)
          refine lv_goto (tgt := 66) hx hb dX8_stateCount_107 (by decide) ?_
          exact ih x_thrown l1 l2 l3 l4 (l5 + 1) l6 y0 hs Hz lz hP hD hSz ls (lv_sub hl [1, 2, 3, 4, 5, 0, 6] rfl) kx
      · cases hs
        exact kx Hz lz hP hD hSz ls (lv_sub hl [0, 1, 2, 3, 4, 5, 6] rfl)
  have Lz60 : ∀ (fu : Nat) (x_thrown : Int) (l1 : Int) (l2 : Int) (l3 : Int) (l4 : Int) (l5 : Int) (l6 : Int) (y0 : Int), s_X8_stateCount_60 fu x_isFolding a_length a_bytes a_list l1 l2 l3 l4 l5 l6 = some y0 → ∀ (Hz : Heap) (lz : List Loc), va_P D vwCl (wM cI cZ cJ ad x_thrown x_buffered x_given x_isFolding x_work x_rebuilt x_streamed x_reports x_gapFrom x_gapSize x_elements x_wholeSize x_isLaid x_takenMany a_buffer a_length a_bytes a_weight a_live a_size a_list a_moved a_planned a_stream a_reportedEnd a_reportedKeyword a_starts a_keywordAt a_element a_long1 a_head a_tail a_next a_skip a_last a_whole a_edges a_covers a_weighs a_numbers a_takes a_takenAt) Hz → va_D Az (wM cI cZ cJ ad x_thrown x_buffered x_given x_isFolding x_work x_rebuilt x_streamed x_reports x_gapFrom x_gapSize x_elements x_wholeSize x_isLaid x_takenMany a_buffer a_length a_bytes a_weight a_live a_size a_list a_moved a_planned a_stream a_reportedEnd a_reportedKeyword a_starts a_keywordAt a_element a_long1 a_head a_tail a_next a_skip a_last a_whole a_edges a_covers a_weighs a_numbers a_takes a_takenAt) → va_S Az s.heap Hz lz → ∀ ls : Array Slot, lv_has ls 7 [(0, .ref (ad 0)), (1, .int (iI l1)), (2, .int (iI l2)), (3, .int (iI l3)), (4, .int (iI l4)), (5, .int (iI l5)), (6, .int (iI l6))] → (∀ (Hz : Heap) (lz : List Loc), va_P D vwCl (wM cI cZ cJ ad x_thrown x_buffered x_given x_isFolding x_work x_rebuilt x_streamed x_reports x_gapFrom x_gapSize x_elements x_wholeSize x_isLaid x_takenMany a_buffer a_length a_bytes a_weight a_live a_size a_list a_moved a_planned a_stream a_reportedEnd a_reportedKeyword a_starts a_keywordAt a_element a_long1 a_head a_tail a_next a_skip a_last a_whole a_edges a_covers a_weighs a_numbers a_takes a_takenAt) Hz → va_D Az (wM cI cZ cJ ad x_thrown x_buffered x_given x_isFolding x_work x_rebuilt x_streamed x_reports x_gapFrom x_gapSize x_elements x_wholeSize x_isLaid x_takenMany a_buffer a_length a_bytes a_weight a_live a_size a_list a_moved a_planned a_stream a_reportedEnd a_reportedKeyword a_starts a_keywordAt a_element a_long1 a_head a_tail a_next a_skip a_last a_whole a_edges a_covers a_weighs a_numbers a_takes a_takenAt) → va_S Az s.heap Hz lz → ∀ ls : Array Slot, lv_has ls 7 [(0, .ref (ad 0)), (1, .int (iI l1)), (2, .int (iI l2)), (3, .int (iI l3)), (4, .int (iI l4)), (5, .int (iI y0))] → W p l e (headSpec wsX8_stateCount rm_X8_stateCount).room s m args below meth c Hz lz 0 0 (MQ below (QW D vwCl (some (.int (iI r))) wz Az) args s 0 0 Az) (F0 m 116 ls [])) → W p l e (headSpec wsX8_stateCount rm_X8_stateCount).room s m args below meth c Hz lz 0 0 (MQ below (QW D vwCl (some (.int (iI r))) wz Az) args s 0 0 Az) (F0 m 60 ls []) := by
    intro fu
    induction fu with
    | zero => intro x_thrown l1 l2 l3 l4 l5 l6 y0 hs; cases hs
    | succ fu ih =>
      intro x_thrown l1 l2 l3 l4 l5 l6 y0 hs Hz lz hP hD hSz ls hl kx
      rw [s_X8_stateCount_60_s] at hs
      refine lv_iload hx hb dX8_stateCount_60 (lv_at hl 6 rfl) ?_
      refine lv_iload_n hx hb dX8_stateCount_62 rfl (lv_at hl 3 rfl) ?_
      refine k_icmp_ge (tgt := 116) hx hb hs dX8_stateCount_63 (by decide) (fun hs => ?_) (fun hs => ?_)
      · obtain ⟨ez8, hq, hs⟩ := bd1_some hs
        refine Lz66 FU x_thrown l1 l2 l3 l4 l5 l6 ez8 hq Hz lz hP hD hSz ls (lv_sub hl [0, 1, 2, 3, 4, 5, 6] rfl) ?_
        intro Hz lz hP hD hSz ls hl
        refine k_iinc (x := l6) (k := 6) (lv' := [(6, .int (iI (l6 + 1))), (0, .ref (ad 0)), (1, .int (iI l1)), (2, .int (iI l2)), (3, .int (iI l3)), (4, .int (iI l4)), (5, .int (iI ez8))]) hx hb dX8_stateCount_110 hl rfl (by decide) rfl (fun ls hl => ?_)
        refine lv_goto (tgt := 60) hx hb dX8_stateCount_113 (by decide) ?_
        exact ih x_thrown l1 l2 l3 l4 ez8 (l6 + 1) y0 hs Hz lz hP hD hSz ls (lv_sub hl [1, 2, 3, 4, 5, 6, 0] rfl) kx
      · cases hs
        exact kx Hz lz hP hD hSz ls (lv_sub hl [0, 1, 2, 3, 4, 5] rfl)
  have Lz30 : ∀ (fu : Nat) (x_thrown : Int) (l1 : Int) (l2 : Int) (l3 : Int) (y0 : Int), s_X8_stateCount_30 fu x_isFolding a_length a_bytes a_size a_list l1 l2 l3 = some y0 → ∀ (Hz : Heap) (lz : List Loc), va_P D vwCl (wM cI cZ cJ ad x_thrown x_buffered x_given x_isFolding x_work x_rebuilt x_streamed x_reports x_gapFrom x_gapSize x_elements x_wholeSize x_isLaid x_takenMany a_buffer a_length a_bytes a_weight a_live a_size a_list a_moved a_planned a_stream a_reportedEnd a_reportedKeyword a_starts a_keywordAt a_element a_long1 a_head a_tail a_next a_skip a_last a_whole a_edges a_covers a_weighs a_numbers a_takes a_takenAt) Hz → va_D Az (wM cI cZ cJ ad x_thrown x_buffered x_given x_isFolding x_work x_rebuilt x_streamed x_reports x_gapFrom x_gapSize x_elements x_wholeSize x_isLaid x_takenMany a_buffer a_length a_bytes a_weight a_live a_size a_list a_moved a_planned a_stream a_reportedEnd a_reportedKeyword a_starts a_keywordAt a_element a_long1 a_head a_tail a_next a_skip a_last a_whole a_edges a_covers a_weighs a_numbers a_takes a_takenAt) → va_S Az s.heap Hz lz → ∀ ls : Array Slot, lv_has ls 7 [(0, .ref (ad 0)), (1, .int (iI l1)), (2, .int (iI l2)), (3, .int (iI l3))] → (∀ (Hz : Heap) (lz : List Loc), va_P D vwCl (wM cI cZ cJ ad x_thrown x_buffered x_given x_isFolding x_work x_rebuilt x_streamed x_reports x_gapFrom x_gapSize x_elements x_wholeSize x_isLaid x_takenMany a_buffer a_length a_bytes a_weight a_live a_size a_list a_moved a_planned a_stream a_reportedEnd a_reportedKeyword a_starts a_keywordAt a_element a_long1 a_head a_tail a_next a_skip a_last a_whole a_edges a_covers a_weighs a_numbers a_takes a_takenAt) Hz → va_D Az (wM cI cZ cJ ad x_thrown x_buffered x_given x_isFolding x_work x_rebuilt x_streamed x_reports x_gapFrom x_gapSize x_elements x_wholeSize x_isLaid x_takenMany a_buffer a_length a_bytes a_weight a_live a_size a_list a_moved a_planned a_stream a_reportedEnd a_reportedKeyword a_starts a_keywordAt a_element a_long1 a_head a_tail a_next a_skip a_last a_whole a_edges a_covers a_weighs a_numbers a_takes a_takenAt) → va_S Az s.heap Hz lz → ∀ ls : Array Slot, lv_has ls 7 [(2, .int (iI y0))] → W p l e (headSpec wsX8_stateCount rm_X8_stateCount).room s m args below meth c Hz lz 0 0 (MQ below (QW D vwCl (some (.int (iI r))) wz Az) args s 0 0 Az) (F0 m 135 ls [])) → W p l e (headSpec wsX8_stateCount rm_X8_stateCount).room s m args below meth c Hz lz 0 0 (MQ below (QW D vwCl (some (.int (iI r))) wz Az) args s 0 0 Az) (F0 m 30 ls []) := by
    intro fu
    induction fu with
    | zero => intro x_thrown l1 l2 l3 y0 hs; cases hs
    | succ fu ih =>
      intro x_thrown l1 l2 l3 y0 hs Hz lz hP hD hSz ls hl kx
      rw [s_X8_stateCount_30_s] at hs
      refine lv_iload_n hx hb dX8_stateCount_30 rfl (lv_at hl 3 rfl) ?_
      refine lv_aload_n hx hb dX8_stateCount_31 rfl (lv_at hl 0 rfl) ?_
      refine va_get (ci := 8) (v := .ref (ad 6)) (C := RX8) (T := TX8) (N := 42) hx hb hts hiX8 hown hK hP 0 rfl rfl 9 (by decide) hf30 (fun _ h9 => h9) rfl dX8_stateCount_32 ?_
      refine lv_iload_n hx hb dX8_stateCount_35 rfl (lv_at hl 1 rfl) ?_
      refine k_iald hx hb hK hP 6 0 rfl rfl (Nat.le_of_ble_eq_true rfl) hs dX8_stateCount_36 (fun vz3 hs => ?_)
      refine k_icmp_ge (tgt := 135) hx hb hs dX8_stateCount_37 (by decide) (fun hs => ?_) (fun hs => ?_)
      · refine lv_aload_n hx hb dX8_stateCount_40 rfl (lv_at hl 0 rfl) ?_
        refine va_get (ci := 8) (v := .ref (ad 7)) (C := RX8) (T := TX8) (N := 42) hx hb hts hiX8 hown hK hP 0 rfl rfl 10 (by decide) hf33 (fun _ h9 => h9) rfl dX8_stateCount_41 ?_
        refine k_sipush (n := 128) hx hb (by decide) dX8_stateCount_44 ?_
        refine lv_iload_n hx hb dX8_stateCount_47 rfl (lv_at hl 1 rfl) ?_
        refine k_imul hx hb dX8_stateCount_48 ?_
        refine lv_iload_n hx hb dX8_stateCount_49 rfl (lv_at hl 3 rfl) ?_
        refine k_iadd hx hb dX8_stateCount_50 ?_
        refine k_iald hx hb hK hP 7 0 rfl rfl (Nat.le_of_ble_eq_true rfl) hs dX8_stateCount_51 (fun vz4 hs => ?_)
        refine lv_istore (lv' := [(4, .int (iI vz4)), (0, .ref (ad 0)), (1, .int (iI l1)), (2, .int (iI l2)), (3, .int (iI l3))]) hx hb dX8_stateCount_52 hl (by decide) rfl (fun ls hl => ?_)
        refine k_iconst (n := 0) hx hb dX8_stateCount_54 ?_
        refine lv_istore (lv' := [(5, .int (iI 0)), (4, .int (iI vz4)), (0, .ref (ad 0)), (1, .int (iI l1)), (2, .int (iI l2)), (3, .int (iI l3))]) hx hb dX8_stateCount_55 hl (by decide) rfl (fun ls hl => ?_)
        refine k_iconst (n := 0) hx hb dX8_stateCount_57 ?_
        refine lv_istore (lv' := [(6, .int (iI 0)), (5, .int (iI 0)), (4, .int (iI vz4)), (0, .ref (ad 0)), (1, .int (iI l1)), (2, .int (iI l2)), (3, .int (iI l3))]) hx hb dX8_stateCount_58 hl (by decide) rfl (fun ls hl => ?_)
        obtain ⟨ez9, hq, hs⟩ := bd1_some hs
        refine Lz60 FU x_thrown l1 l2 l3 vz4 0 0 ez9 hq Hz lz hP hD hSz ls (lv_sub hl [3, 4, 5, 6, 2, 1, 0] rfl) ?_
        intro Hz lz hP hD hSz ls hl
        refine lv_iload_n hx hb dX8_stateCount_116 rfl (lv_at hl 2 rfl) ?_
        refine lv_aload_n hx hb dX8_stateCount_117 rfl (lv_at hl 0 rfl) ?_
        refine va_get (ci := 8) (v := .ref (ad 2)) (C := RX8) (T := TX8) (N := 42) hx hb hts hiX8 hown hK hP 0 rfl rfl 3 (by decide) hf17 (fun _ h9 => h9) rfl dX8_stateCount_118 ?_
        refine lv_iload hx hb dX8_stateCount_121 (lv_at hl 4 rfl) ?_
        refine k_iald hx hb hK hP 2 0 rfl rfl (Nat.le_of_ble_eq_true rfl) hs dX8_stateCount_123 (fun vz10 hs => ?_)
        refine lv_iload hx hb dX8_stateCount_124 (lv_at hl 5 rfl) ?_
        refine k_isub hx hb dX8_stateCount_126 ?_
        refine k_iadd hx hb dX8_stateCount_127 ?_
        refine lv_istore_n (lv' := [(2, .int (iI (l2 + (vz10 - ez9)))), (0, .ref (ad 0)), (1, .int (iI l1)), (3, .int (iI l3)), (4, .int (iI vz4)), (5, .int (iI ez9))]) hx hb dX8_stateCount_128 rfl hl (by decide) rfl (fun ls hl => ?_)
        refine k_iinc (x := l3) (k := 3) (lv' := [(3, .int (iI (l3 + 1))), (2, .int (iI (l2 + (vz10 - ez9)))), (0, .ref (ad 0)), (1, .int (iI l1)), (4, .int (iI vz4)), (5, .int (iI ez9))]) hx hb dX8_stateCount_129 hl rfl (by decide) rfl (fun ls hl => ?_)
        refine lv_goto (tgt := 30) hx hb dX8_stateCount_132 (by decide) ?_
        exact ih x_thrown l1 (l2 + (vz10 - ez9)) (l3 + 1) y0 hs Hz lz hP hD hSz ls (lv_sub hl [2, 3, 1, 0] rfl) kx
      · cases hs
        exact kx Hz lz hP hD hSz ls (lv_sub hl [2] rfl)
  refine (?_ : ∀ (Hz : Heap) (lz : List Loc), va_P D vwCl (wM cI cZ cJ ad x_thrown x_buffered x_given x_isFolding x_work x_rebuilt x_streamed x_reports x_gapFrom x_gapSize x_elements x_wholeSize x_isLaid x_takenMany a_buffer a_length a_bytes a_weight a_live a_size a_list a_moved a_planned a_stream a_reportedEnd a_reportedKeyword a_starts a_keywordAt a_element a_long1 a_head a_tail a_next a_skip a_last a_whole a_edges a_covers a_weighs a_numbers a_takes a_takenAt) Hz → va_D Az (wM cI cZ cJ ad x_thrown x_buffered x_given x_isFolding x_work x_rebuilt x_streamed x_reports x_gapFrom x_gapSize x_elements x_wholeSize x_isLaid x_takenMany a_buffer a_length a_bytes a_weight a_live a_size a_list a_moved a_planned a_stream a_reportedEnd a_reportedKeyword a_starts a_keywordAt a_element a_long1 a_head a_tail a_next a_skip a_last a_whole a_edges a_covers a_weighs a_numbers a_takes a_takenAt) → va_S Az s.heap Hz lz → W p l e (headSpec wsX8_stateCount rm_X8_stateCount).room s m args below meth c Hz lz 0 0 (MQ below (QW D vwCl (some (.int (iI r))) wz Az) args s 0 0 Az) (F0 m 0 ls [])) s.heap [] hP hD hSz
  intro Hz lz hP hD hSz
  refine lv_aload_n hx hb dX8_stateCount_0 rfl (lv_at hl 0 rfl) ?_
  refine k_iconst (n := 0) hx hb dX8_stateCount_1 ?_
  refine va_put (ci := 8) (v := .int (iI 0)) (ty := .int) (C := RX8) (T := TX8) (N := 42) hx hb hts hiX8 tyX8 tyX8_ok nmX8 hown hK hP hD hSz 0 rfl rfl 0 (by decide) hf1 (fun _ h9 => h9) rfl (by decide +kernel) rfl rfl (Nat.le_of_ble_eq_true rfl) dX8_stateCount_2 (fun Hz lz hP hD hSz => ?_)
  have hP : va_P D vwCl (wM cI cZ cJ ad 0 x_buffered x_given x_isFolding x_work x_rebuilt x_streamed x_reports x_gapFrom x_gapSize x_elements x_wholeSize x_isLaid x_takenMany a_buffer a_length a_bytes a_weight a_live a_size a_list a_moved a_planned a_stream a_reportedEnd a_reportedKeyword a_starts a_keywordAt a_element a_long1 a_head a_tail a_next a_skip a_last a_whole a_edges a_covers a_weighs a_numbers a_takes a_takenAt) Hz := hP
  have hD : va_D Az (wM cI cZ cJ ad 0 x_buffered x_given x_isFolding x_work x_rebuilt x_streamed x_reports x_gapFrom x_gapSize x_elements x_wholeSize x_isLaid x_takenMany a_buffer a_length a_bytes a_weight a_live a_size a_list a_moved a_planned a_stream a_reportedEnd a_reportedKeyword a_starts a_keywordAt a_element a_long1 a_head a_tail a_next a_skip a_last a_whole a_edges a_covers a_weighs a_numbers a_takes a_takenAt) := hD
  refine lv_iload_n hx hb dX8_stateCount_5 rfl (lv_at hl 1 rfl) ?_
  obtain ⟨vz1, hcz, hs⟩ := bd1_some hs
  refine k_rS (As := [.int (iI pz1)]) (rest := []) (st1 := [.int (iI vz1)]) ⟨hx, hb, hml, hown, hts⟩ hK (va_P_nil (D := D) (cl := vwCl)) (c_X8_isLevel l D cI cZ cJ hcz) (va_cwS 1 hts gX8_stateCount_X8_isLevel rfl rfl rfl (by decide +kernel) ⟨Nat.le_of_ble_eq_true rfl, Nat.le_of_ble_eq_true rfl⟩) rfl hl.1 rfl (lv_room (Nat.le_of_ble_eq_true rfl)) dX8_stateCount_6 ⟨Nat.zero_le _, Nat.zero_le _⟩ rfl ?_
  refine k_if_ne (tgt := 15) hx hb hs dX8_stateCount_9 (by decide) (fun hs => ?_) (fun hs => ?_)
  · refine k_bipush (n := (-3)) hx hb (by decide) dX8_stateCount_12 ?_
    cases hs
    exact k_iret_w hx hb hr hlk (by rw [hw1]; exact hP) hSz dX8_stateCount_14 rfl
  · refine lv_aload_n hx hb dX8_stateCount_15 rfl (lv_at hl 0 rfl) ?_
    refine va_get (ci := 8) (v := .ref (ad 6)) (C := RX8) (T := TX8) (N := 42) hx hb hts hiX8 hown hK hP 0 rfl rfl 9 (by decide) hf30 (fun _ h9 => h9) rfl dX8_stateCount_16 ?_
    refine lv_iload_n hx hb dX8_stateCount_19 rfl (lv_at hl 1 rfl) ?_
    refine k_iald hx hb hK hP 6 0 rfl rfl (Nat.le_of_ble_eq_true rfl) hs dX8_stateCount_20 (fun vz2 hs => ?_)
    refine k_if_ne (tgt := 26) hx hb hs dX8_stateCount_21 (by decide) (fun hs => ?_) (fun hs => ?_)
    · refine k_iconst (n := (-1)) hx hb dX8_stateCount_24 ?_
      cases hs
      exact k_iret_w hx hb hr hlk (by rw [hw1]; exact hP) hSz dX8_stateCount_25 rfl
    · refine k_iconst (n := 1) hx hb dX8_stateCount_26 ?_
      refine lv_istore_n (lv' := [(2, .int (iI 1)), (0, .ref (ad 0)), (1, .int (iI pz1))]) hx hb dX8_stateCount_27 rfl hl (by decide) rfl (fun ls hl => ?_)
      refine k_iconst (n := 0) hx hb dX8_stateCount_28 ?_
      refine lv_istore_n (lv' := [(3, .int (iI 0)), (2, .int (iI 1)), (0, .ref (ad 0)), (1, .int (iI pz1))]) hx hb dX8_stateCount_29 rfl hl (by decide) rfl (fun ls hl => ?_)
      obtain ⟨ez11, hq, hs⟩ := bd1_some hs
      refine Lz30 FU 0 pz1 1 0 ez11 hq Hz lz hP hD hSz ls (lv_sub hl [2, 3, 1, 0] rfl) ?_
      intro Hz lz hP hD hSz ls hl
      refine lv_iload_n hx hb dX8_stateCount_135 rfl (lv_at hl 0 rfl) ?_
      cases hs
      exact k_iret_w hx hb hr hlk (by rw [hw1]; exact hP) hSz dX8_stateCount_136 rfl
/-! X8_isInStream -/
set_option maxHeartbeats 4000000 in
set_option maxRecDepth 100000 in
theorem c_X8_isInStream (l : Launch) (D : va_G) (cI cZ cJ : ClassId) {ad : Nat → Nat} {x_thrown : Int} {x_buffered : Int} {x_given : Int} {x_isFolding : Int} {x_work : Int} {x_rebuilt : Int} {x_streamed : Int} {x_reports : Int} {x_gapFrom : Int} {x_gapSize : Int} {x_elements : Int} {x_wholeSize : Int} {x_isLaid : Int} {x_takenMany : Int} {a_buffer : (Int → Int)} {a_length : (Int → Int)} {a_bytes : (Int → Int)} {a_weight : (Int → Int)} {a_live : (Int → Int)} {a_size : (Int → Int)} {a_list : (Int → Int)} {a_moved : (Int → Int)} {a_planned : (Int → Int)} {a_stream : (Int → Int)} {a_reportedEnd : (Int → Int)} {a_reportedKeyword : (Int → Int)} {a_starts : (Int → Int)} {a_keywordAt : (Int → Int)} {a_element : (Int → Int)} {a_long1 : (Int → Int)} {a_head : (Int → Int)} {a_tail : (Int → Int)} {a_next : (Int → Int)} {a_skip : (Int → Int)} {a_last : (Int → Int)} {a_whole : (Int → Int)} {a_edges : (Int → Int)} {a_covers : (Int → Int)} {a_weighs : (Int → Int)} {a_numbers : (Int → Int)} {a_takes : (Int → Int)} {a_takenAt : (Int → Int)} {pz1 : Int} {pz2 : Int} {pz3 : Int} {r : Int} (hs : s_X8_isInStream x_isFolding x_streamed a_bytes a_stream pz1 pz2 pz3 = some r) : Met l yX8_isInStream wsX8_isInStream rm_X8_isInStream (PR D vwCl [(cI, .int), (cZ, .boolean), (cJ, .long)] [.ref (ad 0), .int (iI pz1), .int (iI pz2), .int (iI pz3)] (wM cI cZ cJ ad x_thrown x_buffered x_given x_isFolding x_work x_rebuilt x_streamed x_reports x_gapFrom x_gapSize x_elements x_wholeSize x_isLaid x_takenMany a_buffer a_length a_bytes a_weight a_live a_size a_list a_moved a_planned a_stream a_reportedEnd a_reportedKeyword a_starts a_keywordAt a_element a_long1 a_head a_tail a_next a_skip a_last a_whole a_edges a_covers a_weighs a_numbers a_takes a_takenAt)) (QR (some (.int (iI r)))) 0 0 (fun _ => False) := by
  refine Met.ofW (cc := cX8_isInStream) (maxL := 5) (ret := (some .boolean)) (by decide) rfl ?_
  intro p e s m args below meth c s₁ B hml hv
  obtain ⟨hav, hP, hK⟩ := hv
  have hx := B.exec
  have hb := B.bytes
  have hr := B.returns
  have hts := atoms_spec (ws := wsX8_isInStream) B.pre
  have hown : s.vm.findClass RX8 = some m.cls := findClass_of_methodNamed B.named
  have hlk := B.notSynchronized
  have hf170 : (Cond.fieldLink RX8 170 "KeywordMatcherModel" "streamed" "I").before args s = true := hts _ (List.mem_of_getElem? (i := 1) rfl)
  have hiX8 : ∀ w ∈ wsX80, w ∈ wsX8_isInStream := fun w h => List.mem_cons_of_mem _ (List.mem_append_right _ h)
  have hf42 : (Cond.fieldLink RX8 42 "KeywordMatcherModel" "stream" "[I").before args s = true := hts _ (List.mem_of_getElem? (i := 2) rfl)
  have hl := lv_entry ([.ref (ad 0), .int (iI pz1), .int (iI pz2), .int (iI pz3)]) (n := 5) (Nat.le_of_ble_eq_true rfl)
  rw [show entryFrame m args 5 = entryFrame m ([.ref (ad 0), .int (iI pz1), .int (iI pz2), .int (iI pz3)] : List Value).toArray 5 from by rw [hav], lg_entry_eq]
  generalize (lg_sl ([.ref (ad 0), .int (iI pz1), .int (iI pz2), .int (iI pz3)]) ++ List.replicate (5 - (lg_sl ([.ref (ad 0), .int (iI pz1), .int (iI pz2), .int (iI pz3)])).length) Slot.unset).toArray = ls at hl ⊢
  have hl : lv_has ls 5 [(0, .ref (ad 0)), (1, .int (iI pz1)), (2, .int (iI pz2)), (3, .int (iI pz3))] := hl
  unfold s_X8_isInStream at hs
  have Lz19 : ∀ (fu : Nat) (l1 : Int) (l2 : Int) (l3 : Int) (l4 : Int), s_X8_isInStream_19 fu x_isFolding a_bytes a_stream l1 l2 l3 l4 = some r → ∀ ls : Array Slot, lv_has ls 5 [(0, .ref (ad 0)), (1, .int (iI l1)), (2, .int (iI l2)), (3, .int (iI l3)), (4, .int (iI l4))] → W p l e (headSpec wsX8_isInStream rm_X8_isInStream).room s m args below meth c s.heap [] 0 0 (MQ below (QR (some (.int (iI r)))) args s 0 0 (fun _ => False)) (F0 m 19 ls []) := by
    intro fu
    induction fu with
    | zero => intro l1 l2 l3 l4 hs; cases hs
    | succ fu ih =>
      intro l1 l2 l3 l4 hs ls hl
      rw [s_X8_isInStream_19_s] at hs
      refine lv_iload hx hb dX8_isInStream_19 (lv_at hl 4 rfl) ?_
      refine lv_iload_n hx hb dX8_isInStream_21 rfl (lv_at hl 3 rfl) ?_
      refine k_icmp_ge (tgt := 56) hx hb hs dX8_isInStream_22 (by decide) (fun hs => ?_) (fun hs => ?_)
      · refine lv_aload_n hx hb dX8_isInStream_25 rfl (lv_at hl 0 rfl) ?_
        refine lv_aload_n hx hb dX8_isInStream_26 rfl (lv_at hl 0 rfl) ?_
        refine lv_iload_n hx hb dX8_isInStream_27 rfl (lv_at hl 1 rfl) ?_
        refine lv_iload hx hb dX8_isInStream_28 (lv_at hl 4 rfl) ?_
        obtain ⟨vz1, hcz, hs⟩ := bd1_some hs
        refine k_rV (As := [.int (iI l1), .int (iI l4)]) (rest := [.ref (ad 0)]) (st1 := [.int (iI vz1), .ref (ad 0)]) ⟨hx, hb, hml, hown, hts⟩ hK hP (c_X8_byteOf l D cI cZ cJ hcz) (cwV 2 hts gX8_isInStream_X8_byteOf rfl rfl rfl (by decide +kernel) ⟨Nat.le_of_ble_eq_true rfl, Nat.le_of_ble_eq_true rfl⟩) 0 rfl rfl rfl rfl hl.1 rfl (lv_room (Nat.le_of_ble_eq_true rfl)) dX8_isInStream_30 ⟨Nat.zero_le _, Nat.zero_le _⟩ rfl ?_
        refine lv_aload_n hx hb dX8_isInStream_33 rfl (lv_at hl 0 rfl) ?_
        refine va_get (ci := 8) (v := .ref (ad 10)) (C := RX8) (T := TX8) (N := 42) hx hb hts hiX8 hown hK hP 0 rfl rfl 15 (by decide) hf42 (fun _ h9 => h9) rfl dX8_isInStream_34 ?_
        refine lv_iload_n hx hb dX8_isInStream_37 rfl (lv_at hl 2 rfl) ?_
        refine lv_iload hx hb dX8_isInStream_38 (lv_at hl 4 rfl) ?_
        refine k_iadd hx hb dX8_isInStream_40 ?_
        refine k_iald hx hb hK hP 10 0 rfl rfl (Nat.le_of_ble_eq_true rfl) hs dX8_isInStream_41 (fun vz2 hs => ?_)
        obtain ⟨vz3, hcz, hs⟩ := bd1_some hs
        refine k_rV (As := [.int (iI vz1), .int (iI vz2)]) (rest := []) (st1 := [.int (iI vz3)]) ⟨hx, hb, hml, hown, hts⟩ hK hP (c_X8_like l D cI cZ cJ hcz) (cwV 2 hts gX8_isInStream_X8_like rfl rfl rfl (by decide +kernel) ⟨Nat.le_of_ble_eq_true rfl, Nat.le_of_ble_eq_true rfl⟩) 0 rfl rfl rfl rfl hl.1 rfl (lv_room (Nat.le_of_ble_eq_true rfl)) dX8_isInStream_42 ⟨Nat.zero_le _, Nat.zero_le _⟩ rfl ?_
        refine k_if_ne (tgt := 50) hx hb hs dX8_isInStream_45 (by decide) (fun hs => ?_) (fun hs => ?_)
        · refine k_iconst (n := 0) hx hb dX8_isInStream_48 ?_
          cases hs
          exact k_zret_r hx hb hr hlk rfl (by decide) dX8_isInStream_49 rfl
        · refine k_iinc (x := l4) (k := 4) (lv' := [(4, .int (iI (l4 + 1))), (0, .ref (ad 0)), (1, .int (iI l1)), (2, .int (iI l2)), (3, .int (iI l3))]) hx hb dX8_isInStream_50 hl rfl (by decide) rfl (fun ls hl => ?_)
          refine lv_goto (tgt := 19) hx hb dX8_isInStream_53 (by decide) ?_
          exact ih l1 l2 l3 (l4 + 1)  hs ls (lv_sub hl [1, 2, 3, 4, 0] rfl)
      · refine k_iconst (n := 1) hx hb dX8_isInStream_56 ?_
        cases hs
        exact k_zret_r hx hb hr hlk rfl (by decide) dX8_isInStream_57 rfl
  refine lv_iload_n hx hb dX8_isInStream_0 rfl (lv_at hl 2 rfl) ?_
  refine k_if_lt (tgt := 14) hx hb hs dX8_isInStream_1 (by decide) (fun hs => ?_) (fun hs => ?_)
  · refine k_iconst (n := 0) hx hb dX8_isInStream_14 ?_
    cases hs
    exact k_zret_r hx hb hr hlk rfl (by decide) dX8_isInStream_15 rfl
  · refine lv_iload_n hx hb dX8_isInStream_4 rfl (lv_at hl 2 rfl) ?_
    refine lv_iload_n hx hb dX8_isInStream_5 rfl (lv_at hl 3 rfl) ?_
    refine k_iadd hx hb dX8_isInStream_6 ?_
    refine lv_aload_n hx hb dX8_isInStream_7 rfl (lv_at hl 0 rfl) ?_
    refine va_get (ci := 8) (v := .int (iI x_streamed)) (C := RX8) (T := TX8) (N := 42) hx hb hts hiX8 hown hK hP 0 rfl rfl 18 (by decide) hf170 (fun _ h9 => h9) rfl dX8_isInStream_8 ?_
    refine k_icmp_le (tgt := 16) hx hb hs dX8_isInStream_11 (by decide) (fun hs => ?_) (fun hs => ?_)
    · refine k_iconst (n := 0) hx hb dX8_isInStream_14 ?_
      cases hs
      exact k_zret_r hx hb hr hlk rfl (by decide) dX8_isInStream_15 rfl
    · refine k_iconst (n := 0) hx hb dX8_isInStream_16 ?_
      refine lv_istore (lv' := [(4, .int (iI 0)), (0, .ref (ad 0)), (1, .int (iI pz1)), (2, .int (iI pz2)), (3, .int (iI pz3))]) hx hb dX8_isInStream_17 hl (by decide) rfl (fun ls hl => ?_)
      exact Lz19 FU pz1 pz2 pz3 0 hs ls (lv_sub hl [1, 2, 3, 4, 0] rfl)
/-! X8_currentDepth -/
set_option maxHeartbeats 4000000 in
set_option maxRecDepth 100000 in
theorem c_X8_currentDepth (l : Launch) (D : va_G) (cI cZ cJ : ClassId) {ad : Nat → Nat} {x_thrown : Int} {x_buffered : Int} {x_given : Int} {x_isFolding : Int} {x_work : Int} {x_rebuilt : Int} {x_streamed : Int} {x_reports : Int} {x_gapFrom : Int} {x_gapSize : Int} {x_elements : Int} {x_wholeSize : Int} {x_isLaid : Int} {x_takenMany : Int} {a_buffer : (Int → Int)} {a_length : (Int → Int)} {a_bytes : (Int → Int)} {a_weight : (Int → Int)} {a_live : (Int → Int)} {a_size : (Int → Int)} {a_list : (Int → Int)} {a_moved : (Int → Int)} {a_planned : (Int → Int)} {a_stream : (Int → Int)} {a_reportedEnd : (Int → Int)} {a_reportedKeyword : (Int → Int)} {a_starts : (Int → Int)} {a_keywordAt : (Int → Int)} {a_element : (Int → Int)} {a_long1 : (Int → Int)} {a_head : (Int → Int)} {a_tail : (Int → Int)} {a_next : (Int → Int)} {a_skip : (Int → Int)} {a_last : (Int → Int)} {a_whole : (Int → Int)} {a_edges : (Int → Int)} {a_covers : (Int → Int)} {a_weighs : (Int → Int)} {a_numbers : (Int → Int)} {a_takes : (Int → Int)} {a_takenAt : (Int → Int)} {pz1 : Int} {r : Int} {y_x_thrown : Int} {sz : Nat} (hs : s_X8_currentDepth x_thrown x_isFolding x_streamed a_length a_bytes a_size a_list a_stream pz1 = some (r, y_x_thrown)) : Met l yX8_currentDepth wsX8_currentDepth rm_X8_currentDepth (PW D vwCl [(cI, .int), (cZ, .boolean), (cJ, .long)] [.ref (ad 0), .int (iI pz1)] (wM cI cZ cJ ad x_thrown x_buffered x_given x_isFolding x_work x_rebuilt x_streamed x_reports x_gapFrom x_gapSize x_elements x_wholeSize x_isLaid x_takenMany a_buffer a_length a_bytes a_weight a_live a_size a_list a_moved a_planned a_stream a_reportedEnd a_reportedKeyword a_starts a_keywordAt a_element a_long1 a_head a_tail a_next a_skip a_last a_whole a_edges a_covers a_weighs a_numbers a_takes a_takenAt) sz) (QW D vwCl (some (.int (iI r))) (wM cI cZ cJ ad y_x_thrown x_buffered x_given x_isFolding x_work x_rebuilt x_streamed x_reports x_gapFrom x_gapSize x_elements x_wholeSize x_isLaid x_takenMany a_buffer a_length a_bytes a_weight a_live a_size a_list a_moved a_planned a_stream a_reportedEnd a_reportedKeyword a_starts a_keywordAt a_element a_long1 a_head a_tail a_next a_skip a_last a_whole a_edges a_covers a_weighs a_numbers a_takes a_takenAt) (va_A (wM cI cZ cJ ad x_thrown x_buffered x_given x_isFolding x_work x_rebuilt x_streamed x_reports x_gapFrom x_gapSize x_elements x_wholeSize x_isLaid x_takenMany a_buffer a_length a_bytes a_weight a_live a_size a_list a_moved a_planned a_stream a_reportedEnd a_reportedKeyword a_starts a_keywordAt a_element a_long1 a_head a_tail a_next a_skip a_last a_whole a_edges a_covers a_weighs a_numbers a_takes a_takenAt) sz)) 0 0 (va_A (wM cI cZ cJ ad x_thrown x_buffered x_given x_isFolding x_work x_rebuilt x_streamed x_reports x_gapFrom x_gapSize x_elements x_wholeSize x_isLaid x_takenMany a_buffer a_length a_bytes a_weight a_live a_size a_list a_moved a_planned a_stream a_reportedEnd a_reportedKeyword a_starts a_keywordAt a_element a_long1 a_head a_tail a_next a_skip a_last a_whole a_edges a_covers a_weighs a_numbers a_takes a_takenAt) sz) := by
  refine Met.ofW (cc := cX8_currentDepth) (maxL := 6) (ret := (some .int)) (by decide) rfl ?_
  intro p e s m args below meth c s₁ B hml hv
  obtain ⟨hav, hsz, hP, hK, hD0⟩ := hv
  have hx := B.exec
  have hb := B.bytes
  have hr := B.returns
  have hts := atoms_spec (ws := wsX8_currentDepth) B.pre
  have hown : s.vm.findClass RX8 = some m.cls := findClass_of_methodNamed B.named
  have hlk := B.notSynchronized
  have hf1 : (Cond.fieldLink RX8 1 "KeywordMatcherModel" "thrown" "I").before args s = true := hts _ (List.mem_of_getElem? (i := 1) rfl)
  have hiX8 : ∀ w ∈ wsX80, w ∈ wsX8_currentDepth := fun w h => List.mem_cons_of_mem _ (List.mem_append_right _ h)
  have hf30 : (Cond.fieldLink RX8 30 "KeywordMatcherModel" "size" "[I").before args s = true := hts _ (List.mem_of_getElem? (i := 2) rfl)
  have hf33 : (Cond.fieldLink RX8 33 "KeywordMatcherModel" "list" "[I").before args s = true := hts _ (List.mem_of_getElem? (i := 3) rfl)
  have hf17 : (Cond.fieldLink RX8 17 "KeywordMatcherModel" "length" "[I").before args s = true := hts _ (List.mem_of_getElem? (i := 4) rfl)
  have hf170 : (Cond.fieldLink RX8 170 "KeywordMatcherModel" "streamed" "I").before args s = true := hts _ (List.mem_of_getElem? (i := 5) rfl)
  subst hsz
  have hD := hD0.self (sz := s.heap.size)
  generalize hAe : va_A (wM cI cZ cJ ad x_thrown x_buffered x_given x_isFolding x_work x_rebuilt x_streamed x_reports x_gapFrom x_gapSize x_elements x_wholeSize x_isLaid x_takenMany a_buffer a_length a_bytes a_weight a_live a_size a_list a_moved a_planned a_stream a_reportedEnd a_reportedKeyword a_starts a_keywordAt a_element a_long1 a_head a_tail a_next a_skip a_last a_whole a_edges a_covers a_weighs a_numbers a_takes a_takenAt) s.heap.size = Az at hD ⊢
  have hA : ∀ q : Nat, s.heap.size ≤ q → Az q := fun q h => by rw [← hAe]; exact Or.inr h
  clear hAe
  have hSz : va_S Az s.heap s.heap [] := va_S.rf
  obtain ⟨wz, hw1⟩ : ∃ z : va_W, z = (wM cI cZ cJ ad y_x_thrown x_buffered x_given x_isFolding x_work x_rebuilt x_streamed x_reports x_gapFrom x_gapSize x_elements x_wholeSize x_isLaid x_takenMany a_buffer a_length a_bytes a_weight a_live a_size a_list a_moved a_planned a_stream a_reportedEnd a_reportedKeyword a_starts a_keywordAt a_element a_long1 a_head a_tail a_next a_skip a_last a_whole a_edges a_covers a_weighs a_numbers a_takes a_takenAt) := ⟨_, rfl⟩
  rw [← hw1]
  have hl := lv_entry ([.ref (ad 0), .int (iI pz1)]) (n := 6) (Nat.le_of_ble_eq_true rfl)
  rw [show entryFrame m args 6 = entryFrame m ([.ref (ad 0), .int (iI pz1)] : List Value).toArray 6 from by rw [hav], lg_entry_eq]
  generalize (lg_sl ([.ref (ad 0), .int (iI pz1)]) ++ List.replicate (6 - (lg_sl ([.ref (ad 0), .int (iI pz1)])).length) Slot.unset).toArray = ls at hl ⊢
  have hl : lv_has ls 6 [(0, .ref (ad 0)), (1, .int (iI pz1))] := hl
  unfold s_X8_currentDepth at hs
  have Lz57 : ∀ (fu : Nat) (x_thrown : Int) (l1 : Int) (l2 : Int) (l3 : Int) (l4 : Int) (l5 : Int) (y0 : Int), s_X8_currentDepth_57 fu x_isFolding x_streamed a_length a_bytes a_stream l1 l2 l3 l4 l5 = some y0 → ∀ (Hz : Heap) (lz : List Loc), va_P D vwCl (wM cI cZ cJ ad x_thrown x_buffered x_given x_isFolding x_work x_rebuilt x_streamed x_reports x_gapFrom x_gapSize x_elements x_wholeSize x_isLaid x_takenMany a_buffer a_length a_bytes a_weight a_live a_size a_list a_moved a_planned a_stream a_reportedEnd a_reportedKeyword a_starts a_keywordAt a_element a_long1 a_head a_tail a_next a_skip a_last a_whole a_edges a_covers a_weighs a_numbers a_takes a_takenAt) Hz → va_D Az (wM cI cZ cJ ad x_thrown x_buffered x_given x_isFolding x_work x_rebuilt x_streamed x_reports x_gapFrom x_gapSize x_elements x_wholeSize x_isLaid x_takenMany a_buffer a_length a_bytes a_weight a_live a_size a_list a_moved a_planned a_stream a_reportedEnd a_reportedKeyword a_starts a_keywordAt a_element a_long1 a_head a_tail a_next a_skip a_last a_whole a_edges a_covers a_weighs a_numbers a_takes a_takenAt) → va_S Az s.heap Hz lz → ∀ ls : Array Slot, lv_has ls 6 [(0, .ref (ad 0)), (1, .int (iI l1)), (2, .int (iI l2)), (3, .int (iI l3)), (4, .int (iI l4)), (5, .int (iI l5))] → (∀ (Hz : Heap) (lz : List Loc), va_P D vwCl (wM cI cZ cJ ad x_thrown x_buffered x_given x_isFolding x_work x_rebuilt x_streamed x_reports x_gapFrom x_gapSize x_elements x_wholeSize x_isLaid x_takenMany a_buffer a_length a_bytes a_weight a_live a_size a_list a_moved a_planned a_stream a_reportedEnd a_reportedKeyword a_starts a_keywordAt a_element a_long1 a_head a_tail a_next a_skip a_last a_whole a_edges a_covers a_weighs a_numbers a_takes a_takenAt) Hz → va_D Az (wM cI cZ cJ ad x_thrown x_buffered x_given x_isFolding x_work x_rebuilt x_streamed x_reports x_gapFrom x_gapSize x_elements x_wholeSize x_isLaid x_takenMany a_buffer a_length a_bytes a_weight a_live a_size a_list a_moved a_planned a_stream a_reportedEnd a_reportedKeyword a_starts a_keywordAt a_element a_long1 a_head a_tail a_next a_skip a_last a_whole a_edges a_covers a_weighs a_numbers a_takes a_takenAt) → va_S Az s.heap Hz lz → ∀ ls : Array Slot, lv_has ls 6 [(0, .ref (ad 0)), (1, .int (iI l1)), (2, .int (iI y0)), (3, .int (iI l3))] → W p l e (headSpec wsX8_currentDepth rm_X8_currentDepth).room s m args below meth c Hz lz 0 0 (MQ below (QW D vwCl (some (.int (iI r))) wz Az) args s 0 0 Az) (F0 m 111 ls [])) → W p l e (headSpec wsX8_currentDepth rm_X8_currentDepth).room s m args below meth c Hz lz 0 0 (MQ below (QW D vwCl (some (.int (iI r))) wz Az) args s 0 0 Az) (F0 m 57 ls []) := by
    intro fu
    induction fu with
    | zero => intro x_thrown l1 l2 l3 l4 l5 y0 hs; cases hs
    | succ fu ih =>
      intro x_thrown l1 l2 l3 l4 l5 y0 hs Hz lz hP hD hSz ls hl kx
      rw [s_X8_currentDepth_57_s] at hs
      refine lv_iload hx hb dX8_currentDepth_57 (lv_at hl 5 rfl) ?_
      refine lv_aload_n hx hb dX8_currentDepth_59 rfl (lv_at hl 0 rfl) ?_
      refine va_get (ci := 8) (v := .ref (ad 2)) (C := RX8) (T := TX8) (N := 42) hx hb hts hiX8 hown hK hP 0 rfl rfl 3 (by decide) hf17 (fun _ h9 => h9) rfl dX8_currentDepth_60 ?_
      refine lv_iload hx hb dX8_currentDepth_63 (lv_at hl 4 rfl) ?_
      refine k_iald hx hb hK hP 2 0 rfl rfl (Nat.le_of_ble_eq_true rfl) hs dX8_currentDepth_65 (fun vz5 hs => ?_)
      refine k_icmp_gt (tgt := 111) hx hb hs dX8_currentDepth_66 (by decide) (fun hs => ?_) (fun hs => ?_)
      · cases hs
        exact kx Hz lz hP hD hSz ls (lv_sub hl [0, 1, 2, 3] rfl)
      · refine lv_iload hx hb dX8_currentDepth_69 (lv_at hl 5 rfl) ?_
        refine lv_aload_n hx hb dX8_currentDepth_71 rfl (lv_at hl 0 rfl) ?_
        refine va_get (ci := 8) (v := .int (iI x_streamed)) (C := RX8) (T := TX8) (N := 42) hx hb hts hiX8 hown hK hP 0 rfl rfl 18 (by decide) hf170 (fun _ h9 => h9) rfl dX8_currentDepth_72 ?_
        refine k_icmp_gt (tgt := 111) hx hb hs dX8_currentDepth_75 (by decide) (fun hs => ?_) (fun hs => ?_)
        · cases hs
          exact kx Hz lz hP hD hSz ls (lv_sub hl [0, 1, 2, 3] rfl)
        · refine lv_iload hx hb dX8_currentDepth_78 (lv_at hl 5 rfl) ?_
          refine lv_iload_n hx hb dX8_currentDepth_80 rfl (lv_at hl 2 rfl) ?_
          refine k_icmp_le (tgt := 105) hx hb hs dX8_currentDepth_81 (by decide) (fun hs => ?_) (fun hs => ?_)
          · refine lv_aload_n hx hb dX8_currentDepth_84 rfl (lv_at hl 0 rfl) ?_
            refine lv_iload hx hb dX8_currentDepth_85 (lv_at hl 4 rfl) ?_
            refine lv_aload_n hx hb dX8_currentDepth_87 rfl (lv_at hl 0 rfl) ?_
            refine va_get (ci := 8) (v := .int (iI x_streamed)) (C := RX8) (T := TX8) (N := 42) hx hb hts hiX8 hown hK hP 0 rfl rfl 18 (by decide) hf170 (fun _ h9 => h9) rfl dX8_currentDepth_88 ?_
            refine lv_iload hx hb dX8_currentDepth_91 (lv_at hl 5 rfl) ?_
            refine k_isub hx hb dX8_currentDepth_93 ?_
            refine lv_iload hx hb dX8_currentDepth_94 (lv_at hl 5 rfl) ?_
            obtain ⟨vz6, hcz, hs⟩ := bd1_some hs
            refine k_rV (As := [.int (iI l4), .int (iI (x_streamed - l5)), .int (iI l5)]) (rest := []) (st1 := [.int (iI vz6)]) ⟨hx, hb, hml, hown, hts⟩ hK hP (c_X8_isInStream l D cI cZ cJ hcz) (cwV 3 hts gX8_currentDepth_X8_isInStream rfl rfl rfl (by decide +kernel) ⟨Nat.le_of_ble_eq_true rfl, Nat.le_of_ble_eq_true rfl⟩) 0 rfl rfl rfl rfl hl.1 rfl (lv_room (Nat.le_of_ble_eq_true rfl)) dX8_currentDepth_96 ⟨Nat.zero_le _, Nat.zero_le _⟩ rfl ?_
            refine k_if_eq (tgt := 105) hx hb hs dX8_currentDepth_99 (by decide) (fun hs => ?_) (fun hs => ?_)
            · refine k_iinc (x := l5) (k := 5) (lv' := [(5, .int (iI (l5 + 1))), (0, .ref (ad 0)), (1, .int (iI l1)), (2, .int (iI l2)), (3, .int (iI l3)), (4, .int (iI l4))]) hx hb dX8_currentDepth_105 hl rfl (by decide) rfl (fun ls hl => ?_)
              refine lv_goto (tgt := 57) hx hb dX8_currentDepth_108 (by decide) ?_
              exact ih x_thrown l1 l2 l3 l4 (l5 + 1) y0 hs Hz lz hP hD hSz ls (lv_sub hl [1, 2, 3, 4, 5, 0] rfl) kx
            · refine lv_iload hx hb dX8_currentDepth_102 (lv_at hl 5 rfl) ?_
              refine lv_istore_n (lv' := [(2, .int (iI l5)), (0, .ref (ad 0)), (1, .int (iI l1)), (3, .int (iI l3)), (4, .int (iI l4)), (5, .int (iI l5))]) hx hb dX8_currentDepth_104 rfl hl (by decide) rfl (fun ls hl => ?_)
              refine k_iinc (x := l5) (k := 5) (lv' := [(5, .int (iI (l5 + 1))), (2, .int (iI l5)), (0, .ref (ad 0)), (1, .int (iI l1)), (3, .int (iI l3)), (4, .int (iI l4))]) hx hb dX8_currentDepth_105 hl rfl (by decide) rfl (fun ls hl => ?_)
              refine lv_goto (tgt := 57) hx hb dX8_currentDepth_108 (by decide) ?_
              exact ih x_thrown l1 l5 l3 l4 (l5 + 1) y0 hs Hz lz hP hD hSz ls (lv_sub hl [2, 3, 1, 4, 5, 0] rfl) kx
          · refine k_iinc (x := l5) (k := 5) (lv' := [(5, .int (iI (l5 + 1))), (0, .ref (ad 0)), (1, .int (iI l1)), (2, .int (iI l2)), (3, .int (iI l3)), (4, .int (iI l4))]) hx hb dX8_currentDepth_105 hl rfl (by decide) rfl (fun ls hl => ?_)
            refine lv_goto (tgt := 57) hx hb dX8_currentDepth_108 (by decide) ?_
            exact ih x_thrown l1 l2 l3 l4 (l5 + 1) y0 hs Hz lz hP hD hSz ls (lv_sub hl [1, 2, 3, 4, 5, 0] rfl) kx
  have Lz30 : ∀ (fu : Nat) (x_thrown : Int) (l1 : Int) (l2 : Int) (l3 : Int) (y0 : Int), s_X8_currentDepth_30 fu x_isFolding x_streamed a_length a_bytes a_size a_list a_stream l1 l2 l3 = some y0 → ∀ (Hz : Heap) (lz : List Loc), va_P D vwCl (wM cI cZ cJ ad x_thrown x_buffered x_given x_isFolding x_work x_rebuilt x_streamed x_reports x_gapFrom x_gapSize x_elements x_wholeSize x_isLaid x_takenMany a_buffer a_length a_bytes a_weight a_live a_size a_list a_moved a_planned a_stream a_reportedEnd a_reportedKeyword a_starts a_keywordAt a_element a_long1 a_head a_tail a_next a_skip a_last a_whole a_edges a_covers a_weighs a_numbers a_takes a_takenAt) Hz → va_D Az (wM cI cZ cJ ad x_thrown x_buffered x_given x_isFolding x_work x_rebuilt x_streamed x_reports x_gapFrom x_gapSize x_elements x_wholeSize x_isLaid x_takenMany a_buffer a_length a_bytes a_weight a_live a_size a_list a_moved a_planned a_stream a_reportedEnd a_reportedKeyword a_starts a_keywordAt a_element a_long1 a_head a_tail a_next a_skip a_last a_whole a_edges a_covers a_weighs a_numbers a_takes a_takenAt) → va_S Az s.heap Hz lz → ∀ ls : Array Slot, lv_has ls 6 [(0, .ref (ad 0)), (1, .int (iI l1)), (2, .int (iI l2)), (3, .int (iI l3))] → (∀ (Hz : Heap) (lz : List Loc), va_P D vwCl (wM cI cZ cJ ad x_thrown x_buffered x_given x_isFolding x_work x_rebuilt x_streamed x_reports x_gapFrom x_gapSize x_elements x_wholeSize x_isLaid x_takenMany a_buffer a_length a_bytes a_weight a_live a_size a_list a_moved a_planned a_stream a_reportedEnd a_reportedKeyword a_starts a_keywordAt a_element a_long1 a_head a_tail a_next a_skip a_last a_whole a_edges a_covers a_weighs a_numbers a_takes a_takenAt) Hz → va_D Az (wM cI cZ cJ ad x_thrown x_buffered x_given x_isFolding x_work x_rebuilt x_streamed x_reports x_gapFrom x_gapSize x_elements x_wholeSize x_isLaid x_takenMany a_buffer a_length a_bytes a_weight a_live a_size a_list a_moved a_planned a_stream a_reportedEnd a_reportedKeyword a_starts a_keywordAt a_element a_long1 a_head a_tail a_next a_skip a_last a_whole a_edges a_covers a_weighs a_numbers a_takes a_takenAt) → va_S Az s.heap Hz lz → ∀ ls : Array Slot, lv_has ls 6 [(2, .int (iI y0))] → W p l e (headSpec wsX8_currentDepth rm_X8_currentDepth).room s m args below meth c Hz lz 0 0 (MQ below (QW D vwCl (some (.int (iI r))) wz Az) args s 0 0 Az) (F0 m 117 ls [])) → W p l e (headSpec wsX8_currentDepth rm_X8_currentDepth).room s m args below meth c Hz lz 0 0 (MQ below (QW D vwCl (some (.int (iI r))) wz Az) args s 0 0 Az) (F0 m 30 ls []) := by
    intro fu
    induction fu with
    | zero => intro x_thrown l1 l2 l3 y0 hs; cases hs
    | succ fu ih =>
      intro x_thrown l1 l2 l3 y0 hs Hz lz hP hD hSz ls hl kx
      rw [s_X8_currentDepth_30_s] at hs
      refine lv_iload_n hx hb dX8_currentDepth_30 rfl (lv_at hl 3 rfl) ?_
      refine lv_aload_n hx hb dX8_currentDepth_31 rfl (lv_at hl 0 rfl) ?_
      refine va_get (ci := 8) (v := .ref (ad 6)) (C := RX8) (T := TX8) (N := 42) hx hb hts hiX8 hown hK hP 0 rfl rfl 9 (by decide) hf30 (fun _ h9 => h9) rfl dX8_currentDepth_32 ?_
      refine lv_iload_n hx hb dX8_currentDepth_35 rfl (lv_at hl 1 rfl) ?_
      refine k_iald hx hb hK hP 6 0 rfl rfl (Nat.le_of_ble_eq_true rfl) hs dX8_currentDepth_36 (fun vz3 hs => ?_)
      refine k_icmp_ge (tgt := 117) hx hb hs dX8_currentDepth_37 (by decide) (fun hs => ?_) (fun hs => ?_)
      · refine lv_aload_n hx hb dX8_currentDepth_40 rfl (lv_at hl 0 rfl) ?_
        refine va_get (ci := 8) (v := .ref (ad 7)) (C := RX8) (T := TX8) (N := 42) hx hb hts hiX8 hown hK hP 0 rfl rfl 10 (by decide) hf33 (fun _ h9 => h9) rfl dX8_currentDepth_41 ?_
        refine k_sipush (n := 128) hx hb (by decide) dX8_currentDepth_44 ?_
        refine lv_iload_n hx hb dX8_currentDepth_47 rfl (lv_at hl 1 rfl) ?_
        refine k_imul hx hb dX8_currentDepth_48 ?_
        refine lv_iload_n hx hb dX8_currentDepth_49 rfl (lv_at hl 3 rfl) ?_
        refine k_iadd hx hb dX8_currentDepth_50 ?_
        refine k_iald hx hb hK hP 7 0 rfl rfl (Nat.le_of_ble_eq_true rfl) hs dX8_currentDepth_51 (fun vz4 hs => ?_)
        refine lv_istore (lv' := [(4, .int (iI vz4)), (0, .ref (ad 0)), (1, .int (iI l1)), (2, .int (iI l2)), (3, .int (iI l3))]) hx hb dX8_currentDepth_52 hl (by decide) rfl (fun ls hl => ?_)
        refine k_iconst (n := 1) hx hb dX8_currentDepth_54 ?_
        refine lv_istore (lv' := [(5, .int (iI 1)), (4, .int (iI vz4)), (0, .ref (ad 0)), (1, .int (iI l1)), (2, .int (iI l2)), (3, .int (iI l3))]) hx hb dX8_currentDepth_55 hl (by decide) rfl (fun ls hl => ?_)
        obtain ⟨ez7, hq, hs⟩ := bd1_some hs
        refine Lz57 FU x_thrown l1 l2 l3 vz4 1 ez7 hq Hz lz hP hD hSz ls (lv_sub hl [2, 3, 4, 5, 1, 0] rfl) ?_
        intro Hz lz hP hD hSz ls hl
        refine k_iinc (x := l3) (k := 3) (lv' := [(3, .int (iI (l3 + 1))), (0, .ref (ad 0)), (1, .int (iI l1)), (2, .int (iI ez7))]) hx hb dX8_currentDepth_111 hl rfl (by decide) rfl (fun ls hl => ?_)
        refine lv_goto (tgt := 30) hx hb dX8_currentDepth_114 (by decide) ?_
        exact ih x_thrown l1 ez7 (l3 + 1) y0 hs Hz lz hP hD hSz ls (lv_sub hl [1, 2, 3, 0] rfl) kx
      · cases hs
        exact kx Hz lz hP hD hSz ls (lv_sub hl [2] rfl)
  refine (?_ : ∀ (Hz : Heap) (lz : List Loc), va_P D vwCl (wM cI cZ cJ ad x_thrown x_buffered x_given x_isFolding x_work x_rebuilt x_streamed x_reports x_gapFrom x_gapSize x_elements x_wholeSize x_isLaid x_takenMany a_buffer a_length a_bytes a_weight a_live a_size a_list a_moved a_planned a_stream a_reportedEnd a_reportedKeyword a_starts a_keywordAt a_element a_long1 a_head a_tail a_next a_skip a_last a_whole a_edges a_covers a_weighs a_numbers a_takes a_takenAt) Hz → va_D Az (wM cI cZ cJ ad x_thrown x_buffered x_given x_isFolding x_work x_rebuilt x_streamed x_reports x_gapFrom x_gapSize x_elements x_wholeSize x_isLaid x_takenMany a_buffer a_length a_bytes a_weight a_live a_size a_list a_moved a_planned a_stream a_reportedEnd a_reportedKeyword a_starts a_keywordAt a_element a_long1 a_head a_tail a_next a_skip a_last a_whole a_edges a_covers a_weighs a_numbers a_takes a_takenAt) → va_S Az s.heap Hz lz → W p l e (headSpec wsX8_currentDepth rm_X8_currentDepth).room s m args below meth c Hz lz 0 0 (MQ below (QW D vwCl (some (.int (iI r))) wz Az) args s 0 0 Az) (F0 m 0 ls [])) s.heap [] hP hD hSz
  intro Hz lz hP hD hSz
  refine lv_aload_n hx hb dX8_currentDepth_0 rfl (lv_at hl 0 rfl) ?_
  refine k_iconst (n := 0) hx hb dX8_currentDepth_1 ?_
  refine va_put (ci := 8) (v := .int (iI 0)) (ty := .int) (C := RX8) (T := TX8) (N := 42) hx hb hts hiX8 tyX8 tyX8_ok nmX8 hown hK hP hD hSz 0 rfl rfl 0 (by decide) hf1 (fun _ h9 => h9) rfl (by decide +kernel) rfl rfl (Nat.le_of_ble_eq_true rfl) dX8_currentDepth_2 (fun Hz lz hP hD hSz => ?_)
  have hP : va_P D vwCl (wM cI cZ cJ ad 0 x_buffered x_given x_isFolding x_work x_rebuilt x_streamed x_reports x_gapFrom x_gapSize x_elements x_wholeSize x_isLaid x_takenMany a_buffer a_length a_bytes a_weight a_live a_size a_list a_moved a_planned a_stream a_reportedEnd a_reportedKeyword a_starts a_keywordAt a_element a_long1 a_head a_tail a_next a_skip a_last a_whole a_edges a_covers a_weighs a_numbers a_takes a_takenAt) Hz := hP
  have hD : va_D Az (wM cI cZ cJ ad 0 x_buffered x_given x_isFolding x_work x_rebuilt x_streamed x_reports x_gapFrom x_gapSize x_elements x_wholeSize x_isLaid x_takenMany a_buffer a_length a_bytes a_weight a_live a_size a_list a_moved a_planned a_stream a_reportedEnd a_reportedKeyword a_starts a_keywordAt a_element a_long1 a_head a_tail a_next a_skip a_last a_whole a_edges a_covers a_weighs a_numbers a_takes a_takenAt) := hD
  refine lv_iload_n hx hb dX8_currentDepth_5 rfl (lv_at hl 1 rfl) ?_
  obtain ⟨vz1, hcz, hs⟩ := bd1_some hs
  refine k_rS (As := [.int (iI pz1)]) (rest := []) (st1 := [.int (iI vz1)]) ⟨hx, hb, hml, hown, hts⟩ hK (va_P_nil (D := D) (cl := vwCl)) (c_X8_isLevel l D cI cZ cJ hcz) (va_cwS 1 hts gX8_currentDepth_X8_isLevel rfl rfl rfl (by decide +kernel) ⟨Nat.le_of_ble_eq_true rfl, Nat.le_of_ble_eq_true rfl⟩) rfl hl.1 rfl (lv_room (Nat.le_of_ble_eq_true rfl)) dX8_currentDepth_6 ⟨Nat.zero_le _, Nat.zero_le _⟩ rfl ?_
  refine k_if_ne (tgt := 15) hx hb hs dX8_currentDepth_9 (by decide) (fun hs => ?_) (fun hs => ?_)
  · refine k_bipush (n := (-3)) hx hb (by decide) dX8_currentDepth_12 ?_
    cases hs
    exact k_iret_w hx hb hr hlk (by rw [hw1]; exact hP) hSz dX8_currentDepth_14 rfl
  · refine lv_aload_n hx hb dX8_currentDepth_15 rfl (lv_at hl 0 rfl) ?_
    refine va_get (ci := 8) (v := .ref (ad 6)) (C := RX8) (T := TX8) (N := 42) hx hb hts hiX8 hown hK hP 0 rfl rfl 9 (by decide) hf30 (fun _ h9 => h9) rfl dX8_currentDepth_16 ?_
    refine lv_iload_n hx hb dX8_currentDepth_19 rfl (lv_at hl 1 rfl) ?_
    refine k_iald hx hb hK hP 6 0 rfl rfl (Nat.le_of_ble_eq_true rfl) hs dX8_currentDepth_20 (fun vz2 hs => ?_)
    refine k_if_ne (tgt := 26) hx hb hs dX8_currentDepth_21 (by decide) (fun hs => ?_) (fun hs => ?_)
    · refine k_iconst (n := (-1)) hx hb dX8_currentDepth_24 ?_
      cases hs
      exact k_iret_w hx hb hr hlk (by rw [hw1]; exact hP) hSz dX8_currentDepth_25 rfl
    · refine k_iconst (n := 0) hx hb dX8_currentDepth_26 ?_
      refine lv_istore_n (lv' := [(2, .int (iI 0)), (0, .ref (ad 0)), (1, .int (iI pz1))]) hx hb dX8_currentDepth_27 rfl hl (by decide) rfl (fun ls hl => ?_)
      refine k_iconst (n := 0) hx hb dX8_currentDepth_28 ?_
      refine lv_istore_n (lv' := [(3, .int (iI 0)), (2, .int (iI 0)), (0, .ref (ad 0)), (1, .int (iI pz1))]) hx hb dX8_currentDepth_29 rfl hl (by decide) rfl (fun ls hl => ?_)
      obtain ⟨ez8, hq, hs⟩ := bd1_some hs
      refine Lz30 FU 0 pz1 0 0 ez8 hq Hz lz hP hD hSz ls (lv_sub hl [2, 3, 1, 0] rfl) ?_
      intro Hz lz hP hD hSz ls hl
      refine lv_iload_n hx hb dX8_currentDepth_117 rfl (lv_at hl 0 rfl) ?_
      cases hs
      exact k_iret_w hx hb hr hlk (by rw [hw1]; exact hP) hSz dX8_currentDepth_118 rfl
/-! X8_levelFound -/
set_option maxHeartbeats 4000000 in
set_option maxRecDepth 100000 in
theorem c_X8_levelFound (l : Launch) (D : va_G) (cI cZ cJ : ClassId) {ad : Nat → Nat} {x_thrown : Int} {x_buffered : Int} {x_given : Int} {x_isFolding : Int} {x_work : Int} {x_rebuilt : Int} {x_streamed : Int} {x_reports : Int} {x_gapFrom : Int} {x_gapSize : Int} {x_elements : Int} {x_wholeSize : Int} {x_isLaid : Int} {x_takenMany : Int} {a_buffer : (Int → Int)} {a_length : (Int → Int)} {a_bytes : (Int → Int)} {a_weight : (Int → Int)} {a_live : (Int → Int)} {a_size : (Int → Int)} {a_list : (Int → Int)} {a_moved : (Int → Int)} {a_planned : (Int → Int)} {a_stream : (Int → Int)} {a_reportedEnd : (Int → Int)} {a_reportedKeyword : (Int → Int)} {a_starts : (Int → Int)} {a_keywordAt : (Int → Int)} {a_element : (Int → Int)} {a_long1 : (Int → Int)} {a_head : (Int → Int)} {a_tail : (Int → Int)} {a_next : (Int → Int)} {a_skip : (Int → Int)} {a_last : (Int → Int)} {a_whole : (Int → Int)} {a_edges : (Int → Int)} {a_covers : (Int → Int)} {a_weighs : (Int → Int)} {a_numbers : (Int → Int)} {a_takes : (Int → Int)} {a_takenAt : (Int → Int)} {pz1 : Int} {r : Int} (hs : s_X8_levelFound a_size a_list pz1 = some r) : Met l yX8_levelFound wsX8_levelFound rm_X8_levelFound (PR D vwCl [(cI, .int), (cZ, .boolean), (cJ, .long)] [.ref (ad 0), .int (iI pz1)] (wM cI cZ cJ ad x_thrown x_buffered x_given x_isFolding x_work x_rebuilt x_streamed x_reports x_gapFrom x_gapSize x_elements x_wholeSize x_isLaid x_takenMany a_buffer a_length a_bytes a_weight a_live a_size a_list a_moved a_planned a_stream a_reportedEnd a_reportedKeyword a_starts a_keywordAt a_element a_long1 a_head a_tail a_next a_skip a_last a_whole a_edges a_covers a_weighs a_numbers a_takes a_takenAt)) (QR (some (.int (iI r)))) 0 0 (fun _ => False) := by
  refine Met.ofW (cc := cX8_levelFound) (maxL := 4) (ret := (some .int)) (by decide) rfl ?_
  intro p e s m args below meth c s₁ B hml hv
  obtain ⟨hav, hP, hK⟩ := hv
  have hx := B.exec
  have hb := B.bytes
  have hr := B.returns
  have hts := atoms_spec (ws := wsX8_levelFound) B.pre
  have hown : s.vm.findClass RX8 = some m.cls := findClass_of_methodNamed B.named
  have hlk := B.notSynchronized
  have hf30 : (Cond.fieldLink RX8 30 "KeywordMatcherModel" "size" "[I").before args s = true := hts _ (List.mem_of_getElem? (i := 1) rfl)
  have hiX8 : ∀ w ∈ wsX80, w ∈ wsX8_levelFound := fun w h => List.mem_cons_of_mem _ (List.mem_append_right _ h)
  have hf33 : (Cond.fieldLink RX8 33 "KeywordMatcherModel" "list" "[I").before args s = true := hts _ (List.mem_of_getElem? (i := 2) rfl)
  have hl := lv_entry ([.ref (ad 0), .int (iI pz1)]) (n := 4) (Nat.le_of_ble_eq_true rfl)
  rw [show entryFrame m args 4 = entryFrame m ([.ref (ad 0), .int (iI pz1)] : List Value).toArray 4 from by rw [hav], lg_entry_eq]
  generalize (lg_sl ([.ref (ad 0), .int (iI pz1)]) ++ List.replicate (4 - (lg_sl ([.ref (ad 0), .int (iI pz1)])).length) Slot.unset).toArray = ls at hl ⊢
  have hl : lv_has ls 4 [(0, .ref (ad 0)), (1, .int (iI pz1))] := hl
  unfold s_X8_levelFound at hs
  have Lz10 : ∀ (fu : Nat) (l1 : Int) (l2 : Int) (l3 : Int) (outz : (Int) ⊕ (Unit)), s_X8_levelFound_10 fu a_size a_list l1 l2 l3 = some outz → ∀ ls : Array Slot, lv_has ls 4 [(0, .ref (ad 0)), (1, .int (iI l1)), (2, .int (iI l2)), (3, .int (iI l3))] → (∀ rr, outz = .inl rr → rr = r) → (outz = .inr () → ∀ ls : Array Slot, lv_has ls 4 [(0, .ref (ad 0)), (1, .int (iI l1)), (2, .int (iI l2))] → W p l e (headSpec wsX8_levelFound rm_X8_levelFound).room s m args below meth c s.heap [] 0 0 (MQ below (QR (some (.int (iI r)))) args s 0 0 (fun _ => False)) (F0 m 44 ls [])) → W p l e (headSpec wsX8_levelFound rm_X8_levelFound).room s m args below meth c s.heap [] 0 0 (MQ below (QR (some (.int (iI r)))) args s 0 0 (fun _ => False)) (F0 m 10 ls []) := by
    intro fu
    induction fu with
    | zero => intro l1 l2 l3 outz hs; cases hs
    | succ fu ih =>
      intro l1 l2 l3 outz hs ls hl kr kx
      rw [s_X8_levelFound_10_s] at hs
      refine lv_iload_n hx hb dX8_levelFound_10 rfl (lv_at hl 3 rfl) ?_
      refine lv_aload_n hx hb dX8_levelFound_11 rfl (lv_at hl 0 rfl) ?_
      refine va_get (ci := 8) (v := .ref (ad 6)) (C := RX8) (T := TX8) (N := 42) hx hb hts hiX8 hown hK hP 0 rfl rfl 9 (by decide) hf30 (fun _ h9 => h9) rfl dX8_levelFound_12 ?_
      refine lv_iload_n hx hb dX8_levelFound_15 rfl (lv_at hl 2 rfl) ?_
      refine k_iald hx hb hK hP 6 0 rfl rfl (Nat.le_of_ble_eq_true rfl) hs dX8_levelFound_16 (fun vz1 hs => ?_)
      refine k_icmp_ge (tgt := 44) hx hb hs dX8_levelFound_17 (by decide) (fun hs => ?_) (fun hs => ?_)
      · refine lv_aload_n hx hb dX8_levelFound_20 rfl (lv_at hl 0 rfl) ?_
        refine va_get (ci := 8) (v := .ref (ad 7)) (C := RX8) (T := TX8) (N := 42) hx hb hts hiX8 hown hK hP 0 rfl rfl 10 (by decide) hf33 (fun _ h9 => h9) rfl dX8_levelFound_21 ?_
        refine k_sipush (n := 128) hx hb (by decide) dX8_levelFound_24 ?_
        refine lv_iload_n hx hb dX8_levelFound_27 rfl (lv_at hl 2 rfl) ?_
        refine k_imul hx hb dX8_levelFound_28 ?_
        refine lv_iload_n hx hb dX8_levelFound_29 rfl (lv_at hl 3 rfl) ?_
        refine k_iadd hx hb dX8_levelFound_30 ?_
        refine k_iald hx hb hK hP 7 0 rfl rfl (Nat.le_of_ble_eq_true rfl) hs dX8_levelFound_31 (fun vz2 hs => ?_)
        refine lv_iload_n hx hb dX8_levelFound_32 rfl (lv_at hl 1 rfl) ?_
        refine k_icmp_ne (tgt := 38) hx hb hs dX8_levelFound_33 (by decide) (fun hs => ?_) (fun hs => ?_)
        · refine lv_iload_n hx hb dX8_levelFound_36 rfl (lv_at hl 2 rfl) ?_
          have hs := kr _ (Option.some.inj hs).symm
          cases hs
          exact k_iret_r hx hb hr hlk rfl dX8_levelFound_37 rfl
        · refine k_iinc (x := l3) (k := 3) (lv' := [(3, .int (iI (l3 + 1))), (0, .ref (ad 0)), (1, .int (iI l1)), (2, .int (iI l2))]) hx hb dX8_levelFound_38 hl rfl (by decide) rfl (fun ls hl => ?_)
          refine lv_goto (tgt := 10) hx hb dX8_levelFound_41 (by decide) ?_
          exact ih l1 l2 (l3 + 1) outz hs ls (lv_sub hl [1, 2, 3, 0] rfl) kr kx
      · cases hs
        exact kx  rfl ls (lv_sub hl [0, 1, 2] rfl)
  have Lz2 : ∀ (fu : Nat) (l1 : Int) (l2 : Int), s_X8_levelFound_2 fu a_size a_list l1 l2 = some r → ∀ ls : Array Slot, lv_has ls 4 [(0, .ref (ad 0)), (1, .int (iI l1)), (2, .int (iI l2))] → W p l e (headSpec wsX8_levelFound rm_X8_levelFound).room s m args below meth c s.heap [] 0 0 (MQ below (QR (some (.int (iI r)))) args s 0 0 (fun _ => False)) (F0 m 2 ls []) := by
    intro fu
    induction fu with
    | zero => intro l1 l2 hs; cases hs
    | succ fu ih =>
      intro l1 l2 hs ls hl
      rw [s_X8_levelFound_2_s] at hs
      refine lv_iload_n hx hb dX8_levelFound_2 rfl (lv_at hl 2 rfl) ?_
      refine k_bipush (n := 7) hx hb (by decide) dX8_levelFound_3 ?_
      refine k_icmp_ge (tgt := 50) hx hb hs dX8_levelFound_5 (by decide) (fun hs => ?_) (fun hs => ?_)
      · refine k_iconst (n := 0) hx hb dX8_levelFound_8 ?_
        refine lv_istore_n (lv' := [(3, .int (iI 0)), (0, .ref (ad 0)), (1, .int (iI l1)), (2, .int (iI l2))]) hx hb dX8_levelFound_9 rfl hl (by decide) rfl (fun ls hl => ?_)
        rcases bdS0_some hs with ⟨rz3, hq, hs⟩ | ⟨hq, hs⟩
        · refine Lz10 FU l1 l2 0 (.inl rz3) hq ls (lv_sub hl [1, 2, 3, 0] rfl) (fun r9 h9 => by cases h9; exact Option.some.inj hs) (fun  h9 => by cases h9)
        · refine Lz10 FU l1 l2 0 (.inr ()) hq ls (lv_sub hl [1, 2, 3, 0] rfl) (fun r9 h9 => by cases h9) ?_
          intro  h9 ls hl
          cases h9
          refine k_iinc (x := l2) (k := 2) (lv' := [(2, .int (iI (l2 + 1))), (0, .ref (ad 0)), (1, .int (iI l1))]) hx hb dX8_levelFound_44 hl rfl (by decide) rfl (fun ls hl => ?_)
          refine lv_goto (tgt := 2) hx hb dX8_levelFound_47 (by decide) ?_
          exact ih l1 (l2 + 1)  hs ls (lv_sub hl [1, 2, 0] rfl)
      · refine k_iconst (n := (-1)) hx hb dX8_levelFound_50 ?_
        cases hs
        exact k_iret_r hx hb hr hlk rfl dX8_levelFound_51 rfl
  refine k_iconst (n := 0) hx hb dX8_levelFound_0 ?_
  refine lv_istore_n (lv' := [(2, .int (iI 0)), (0, .ref (ad 0)), (1, .int (iI pz1))]) hx hb dX8_levelFound_1 rfl hl (by decide) rfl (fun ls hl => ?_)
  exact Lz2 FU pz1 0 hs ls (lv_sub hl [1, 2, 0] rfl)
/-! X8_levelOf -/
set_option maxHeartbeats 4000000 in
set_option maxRecDepth 100000 in
theorem c_X8_levelOf (l : Launch) (D : va_G) (cI cZ cJ : ClassId) {ad : Nat → Nat} {x_thrown : Int} {x_buffered : Int} {x_given : Int} {x_isFolding : Int} {x_work : Int} {x_rebuilt : Int} {x_streamed : Int} {x_reports : Int} {x_gapFrom : Int} {x_gapSize : Int} {x_elements : Int} {x_wholeSize : Int} {x_isLaid : Int} {x_takenMany : Int} {a_buffer : (Int → Int)} {a_length : (Int → Int)} {a_bytes : (Int → Int)} {a_weight : (Int → Int)} {a_live : (Int → Int)} {a_size : (Int → Int)} {a_list : (Int → Int)} {a_moved : (Int → Int)} {a_planned : (Int → Int)} {a_stream : (Int → Int)} {a_reportedEnd : (Int → Int)} {a_reportedKeyword : (Int → Int)} {a_starts : (Int → Int)} {a_keywordAt : (Int → Int)} {a_element : (Int → Int)} {a_long1 : (Int → Int)} {a_head : (Int → Int)} {a_tail : (Int → Int)} {a_next : (Int → Int)} {a_skip : (Int → Int)} {a_last : (Int → Int)} {a_whole : (Int → Int)} {a_edges : (Int → Int)} {a_covers : (Int → Int)} {a_weighs : (Int → Int)} {a_numbers : (Int → Int)} {a_takes : (Int → Int)} {a_takenAt : (Int → Int)} {pz1 : Int} {r : Int} {y_x_thrown : Int} {sz : Nat} (hs : s_X8_levelOf x_thrown x_given a_size a_list pz1 = some (r, y_x_thrown)) : Met l yX8_levelOf wsX8_levelOf rm_X8_levelOf (PW D vwCl [(cI, .int), (cZ, .boolean), (cJ, .long)] [.ref (ad 0), .int (iI pz1)] (wM cI cZ cJ ad x_thrown x_buffered x_given x_isFolding x_work x_rebuilt x_streamed x_reports x_gapFrom x_gapSize x_elements x_wholeSize x_isLaid x_takenMany a_buffer a_length a_bytes a_weight a_live a_size a_list a_moved a_planned a_stream a_reportedEnd a_reportedKeyword a_starts a_keywordAt a_element a_long1 a_head a_tail a_next a_skip a_last a_whole a_edges a_covers a_weighs a_numbers a_takes a_takenAt) sz) (QW D vwCl (some (.int (iI r))) (wM cI cZ cJ ad y_x_thrown x_buffered x_given x_isFolding x_work x_rebuilt x_streamed x_reports x_gapFrom x_gapSize x_elements x_wholeSize x_isLaid x_takenMany a_buffer a_length a_bytes a_weight a_live a_size a_list a_moved a_planned a_stream a_reportedEnd a_reportedKeyword a_starts a_keywordAt a_element a_long1 a_head a_tail a_next a_skip a_last a_whole a_edges a_covers a_weighs a_numbers a_takes a_takenAt) (va_A (wM cI cZ cJ ad x_thrown x_buffered x_given x_isFolding x_work x_rebuilt x_streamed x_reports x_gapFrom x_gapSize x_elements x_wholeSize x_isLaid x_takenMany a_buffer a_length a_bytes a_weight a_live a_size a_list a_moved a_planned a_stream a_reportedEnd a_reportedKeyword a_starts a_keywordAt a_element a_long1 a_head a_tail a_next a_skip a_last a_whole a_edges a_covers a_weighs a_numbers a_takes a_takenAt) sz)) 0 0 (va_A (wM cI cZ cJ ad x_thrown x_buffered x_given x_isFolding x_work x_rebuilt x_streamed x_reports x_gapFrom x_gapSize x_elements x_wholeSize x_isLaid x_takenMany a_buffer a_length a_bytes a_weight a_live a_size a_list a_moved a_planned a_stream a_reportedEnd a_reportedKeyword a_starts a_keywordAt a_element a_long1 a_head a_tail a_next a_skip a_last a_whole a_edges a_covers a_weighs a_numbers a_takes a_takenAt) sz) := by
  refine Met.ofW (cc := cX8_levelOf) (maxL := 2) (ret := (some .int)) (by decide) rfl ?_
  intro p e s m args below meth c s₁ B hml hv
  obtain ⟨hav, hsz, hP, hK, hD0⟩ := hv
  have hx := B.exec
  have hb := B.bytes
  have hr := B.returns
  have hts := atoms_spec (ws := wsX8_levelOf) B.pre
  have hown : s.vm.findClass RX8 = some m.cls := findClass_of_methodNamed B.named
  have hlk := B.notSynchronized
  have hf1 : (Cond.fieldLink RX8 1 "KeywordMatcherModel" "thrown" "I").before args s = true := hts _ (List.mem_of_getElem? (i := 1) rfl)
  have hiX8 : ∀ w ∈ wsX80, w ∈ wsX8_levelOf := fun w h => List.mem_cons_of_mem _ (List.mem_append_right _ h)
  subst hsz
  have hD := hD0.self (sz := s.heap.size)
  generalize hAe : va_A (wM cI cZ cJ ad x_thrown x_buffered x_given x_isFolding x_work x_rebuilt x_streamed x_reports x_gapFrom x_gapSize x_elements x_wholeSize x_isLaid x_takenMany a_buffer a_length a_bytes a_weight a_live a_size a_list a_moved a_planned a_stream a_reportedEnd a_reportedKeyword a_starts a_keywordAt a_element a_long1 a_head a_tail a_next a_skip a_last a_whole a_edges a_covers a_weighs a_numbers a_takes a_takenAt) s.heap.size = Az at hD ⊢
  have hA : ∀ q : Nat, s.heap.size ≤ q → Az q := fun q h => by rw [← hAe]; exact Or.inr h
  clear hAe
  have hSz : va_S Az s.heap s.heap [] := va_S.rf
  obtain ⟨wz, hw1⟩ : ∃ z : va_W, z = (wM cI cZ cJ ad y_x_thrown x_buffered x_given x_isFolding x_work x_rebuilt x_streamed x_reports x_gapFrom x_gapSize x_elements x_wholeSize x_isLaid x_takenMany a_buffer a_length a_bytes a_weight a_live a_size a_list a_moved a_planned a_stream a_reportedEnd a_reportedKeyword a_starts a_keywordAt a_element a_long1 a_head a_tail a_next a_skip a_last a_whole a_edges a_covers a_weighs a_numbers a_takes a_takenAt) := ⟨_, rfl⟩
  rw [← hw1]
  have hl := lv_entry ([.ref (ad 0), .int (iI pz1)]) (n := 2) (Nat.le_of_ble_eq_true rfl)
  rw [show entryFrame m args 2 = entryFrame m ([.ref (ad 0), .int (iI pz1)] : List Value).toArray 2 from by rw [hav], lg_entry_eq]
  generalize (lg_sl ([.ref (ad 0), .int (iI pz1)]) ++ List.replicate (2 - (lg_sl ([.ref (ad 0), .int (iI pz1)])).length) Slot.unset).toArray = ls at hl ⊢
  have hl : lv_has ls 2 [(0, .ref (ad 0)), (1, .int (iI pz1))] := hl
  unfold s_X8_levelOf at hs
  refine (?_ : ∀ (Hz : Heap) (lz : List Loc), va_P D vwCl (wM cI cZ cJ ad x_thrown x_buffered x_given x_isFolding x_work x_rebuilt x_streamed x_reports x_gapFrom x_gapSize x_elements x_wholeSize x_isLaid x_takenMany a_buffer a_length a_bytes a_weight a_live a_size a_list a_moved a_planned a_stream a_reportedEnd a_reportedKeyword a_starts a_keywordAt a_element a_long1 a_head a_tail a_next a_skip a_last a_whole a_edges a_covers a_weighs a_numbers a_takes a_takenAt) Hz → va_D Az (wM cI cZ cJ ad x_thrown x_buffered x_given x_isFolding x_work x_rebuilt x_streamed x_reports x_gapFrom x_gapSize x_elements x_wholeSize x_isLaid x_takenMany a_buffer a_length a_bytes a_weight a_live a_size a_list a_moved a_planned a_stream a_reportedEnd a_reportedKeyword a_starts a_keywordAt a_element a_long1 a_head a_tail a_next a_skip a_last a_whole a_edges a_covers a_weighs a_numbers a_takes a_takenAt) → va_S Az s.heap Hz lz → W p l e (headSpec wsX8_levelOf rm_X8_levelOf).room s m args below meth c Hz lz 0 0 (MQ below (QW D vwCl (some (.int (iI r))) wz Az) args s 0 0 Az) (F0 m 0 ls [])) s.heap [] hP hD hSz
  intro Hz lz hP hD hSz
  refine lv_aload_n hx hb dX8_levelOf_0 rfl (lv_at hl 0 rfl) ?_
  refine k_iconst (n := 0) hx hb dX8_levelOf_1 ?_
  refine va_put (ci := 8) (v := .int (iI 0)) (ty := .int) (C := RX8) (T := TX8) (N := 42) hx hb hts hiX8 tyX8 tyX8_ok nmX8 hown hK hP hD hSz 0 rfl rfl 0 (by decide) hf1 (fun _ h9 => h9) rfl (by decide +kernel) rfl rfl (Nat.le_of_ble_eq_true rfl) dX8_levelOf_2 (fun Hz lz hP hD hSz => ?_)
  have hP : va_P D vwCl (wM cI cZ cJ ad 0 x_buffered x_given x_isFolding x_work x_rebuilt x_streamed x_reports x_gapFrom x_gapSize x_elements x_wholeSize x_isLaid x_takenMany a_buffer a_length a_bytes a_weight a_live a_size a_list a_moved a_planned a_stream a_reportedEnd a_reportedKeyword a_starts a_keywordAt a_element a_long1 a_head a_tail a_next a_skip a_last a_whole a_edges a_covers a_weighs a_numbers a_takes a_takenAt) Hz := hP
  have hD : va_D Az (wM cI cZ cJ ad 0 x_buffered x_given x_isFolding x_work x_rebuilt x_streamed x_reports x_gapFrom x_gapSize x_elements x_wholeSize x_isLaid x_takenMany a_buffer a_length a_bytes a_weight a_live a_size a_list a_moved a_planned a_stream a_reportedEnd a_reportedKeyword a_starts a_keywordAt a_element a_long1 a_head a_tail a_next a_skip a_last a_whole a_edges a_covers a_weighs a_numbers a_takes a_takenAt) := hD
  refine lv_aload_n hx hb dX8_levelOf_5 rfl (lv_at hl 0 rfl) ?_
  refine lv_iload_n hx hb dX8_levelOf_6 rfl (lv_at hl 1 rfl) ?_
  obtain ⟨vz1, hcz, hs⟩ := bd1_some hs
  refine k_rV (As := [.int (iI pz1)]) (rest := []) (st1 := [.int (iI vz1)]) ⟨hx, hb, hml, hown, hts⟩ hK hP (c_X8_isGiven l D cI cZ cJ hcz) (cwV 1 hts gX8_levelOf_X8_isGiven rfl rfl rfl (by decide +kernel) ⟨Nat.le_of_ble_eq_true rfl, Nat.le_of_ble_eq_true rfl⟩) 0 rfl rfl rfl rfl hl.1 rfl (lv_room (Nat.le_of_ble_eq_true rfl)) dX8_levelOf_7 ⟨Nat.zero_le _, Nat.zero_le _⟩ rfl ?_
  refine k_if_eq (tgt := 21) hx hb hs dX8_levelOf_10 (by decide) (fun hs => ?_) (fun hs => ?_)
  · refine k_bipush (n := (-2)) hx hb (by decide) dX8_levelOf_21 ?_
    cases hs
    exact k_iret_w hx hb hr hlk (by rw [hw1]; exact hP) hSz dX8_levelOf_23 rfl
  · refine lv_aload_n hx hb dX8_levelOf_13 rfl (lv_at hl 0 rfl) ?_
    refine lv_iload_n hx hb dX8_levelOf_14 rfl (lv_at hl 1 rfl) ?_
    obtain ⟨vz2, hcz, hs⟩ := bd1_some hs
    refine k_rV (As := [.int (iI pz1)]) (rest := []) (st1 := [.int (iI vz2)]) ⟨hx, hb, hml, hown, hts⟩ hK hP (c_X8_levelFound l D cI cZ cJ hcz) (cwV 1 hts gX8_levelOf_X8_levelFound rfl rfl rfl (by decide +kernel) ⟨Nat.le_of_ble_eq_true rfl, Nat.le_of_ble_eq_true rfl⟩) 0 rfl rfl rfl rfl hl.1 rfl (lv_room (Nat.le_of_ble_eq_true rfl)) dX8_levelOf_15 ⟨Nat.zero_le _, Nat.zero_le _⟩ rfl ?_
    refine lv_goto (tgt := 23) hx hb dX8_levelOf_18 (by decide) ?_
    cases hs
    exact k_iret_w hx hb hr hlk (by rw [hw1]; exact hP) hSz dX8_levelOf_23 rfl
/-! X8_begins -/
set_option maxHeartbeats 4000000 in
set_option maxRecDepth 100000 in
theorem c_X8_begins (l : Launch) (D : va_G) (cI cZ cJ : ClassId) {ad : Nat → Nat} {x_thrown : Int} {x_buffered : Int} {x_given : Int} {x_isFolding : Int} {x_work : Int} {x_rebuilt : Int} {x_streamed : Int} {x_reports : Int} {x_gapFrom : Int} {x_gapSize : Int} {x_elements : Int} {x_wholeSize : Int} {x_isLaid : Int} {x_takenMany : Int} {a_buffer : (Int → Int)} {a_length : (Int → Int)} {a_bytes : (Int → Int)} {a_weight : (Int → Int)} {a_live : (Int → Int)} {a_size : (Int → Int)} {a_list : (Int → Int)} {a_moved : (Int → Int)} {a_planned : (Int → Int)} {a_stream : (Int → Int)} {a_reportedEnd : (Int → Int)} {a_reportedKeyword : (Int → Int)} {a_starts : (Int → Int)} {a_keywordAt : (Int → Int)} {a_element : (Int → Int)} {a_long1 : (Int → Int)} {a_head : (Int → Int)} {a_tail : (Int → Int)} {a_next : (Int → Int)} {a_skip : (Int → Int)} {a_last : (Int → Int)} {a_whole : (Int → Int)} {a_edges : (Int → Int)} {a_covers : (Int → Int)} {a_weighs : (Int → Int)} {a_numbers : (Int → Int)} {a_takes : (Int → Int)} {a_takenAt : (Int → Int)} {pz1 : Int} {pz2 : Int} {pz3 : Int} {pz4 : Int} {r : Int} (hs : s_X8_begins x_isFolding a_length a_bytes pz1 pz2 pz3 pz4 = some r) : Met l yX8_begins wsX8_begins rm_X8_begins (PR D vwCl [(cI, .int), (cZ, .boolean), (cJ, .long)] [.ref (ad 0), .int (iI pz1), .int (iI pz2), .int (iI pz3), .int (iI pz4)] (wM cI cZ cJ ad x_thrown x_buffered x_given x_isFolding x_work x_rebuilt x_streamed x_reports x_gapFrom x_gapSize x_elements x_wholeSize x_isLaid x_takenMany a_buffer a_length a_bytes a_weight a_live a_size a_list a_moved a_planned a_stream a_reportedEnd a_reportedKeyword a_starts a_keywordAt a_element a_long1 a_head a_tail a_next a_skip a_last a_whole a_edges a_covers a_weighs a_numbers a_takes a_takenAt)) (QR (some (.int (iI r)))) 0 0 (fun _ => False) := by
  refine Met.ofW (cc := cX8_begins) (maxL := 6) (ret := (some .boolean)) (by decide) rfl ?_
  intro p e s m args below meth c s₁ B hml hv
  obtain ⟨hav, hP, hK⟩ := hv
  have hx := B.exec
  have hb := B.bytes
  have hr := B.returns
  have hts := atoms_spec (ws := wsX8_begins) B.pre
  have hown : s.vm.findClass RX8 = some m.cls := findClass_of_methodNamed B.named
  have hlk := B.notSynchronized
  have hf17 : (Cond.fieldLink RX8 17 "KeywordMatcherModel" "length" "[I").before args s = true := hts _ (List.mem_of_getElem? (i := 1) rfl)
  have hiX8 : ∀ w ∈ wsX80, w ∈ wsX8_begins := fun w h => List.mem_cons_of_mem _ (List.mem_append_right _ h)
  have hl := lv_entry ([.ref (ad 0), .int (iI pz1), .int (iI pz2), .int (iI pz3), .int (iI pz4)]) (n := 6) (Nat.le_of_ble_eq_true rfl)
  rw [show entryFrame m args 6 = entryFrame m ([.ref (ad 0), .int (iI pz1), .int (iI pz2), .int (iI pz3), .int (iI pz4)] : List Value).toArray 6 from by rw [hav], lg_entry_eq]
  generalize (lg_sl ([.ref (ad 0), .int (iI pz1), .int (iI pz2), .int (iI pz3), .int (iI pz4)]) ++ List.replicate (6 - (lg_sl ([.ref (ad 0), .int (iI pz1), .int (iI pz2), .int (iI pz3), .int (iI pz4)])).length) Slot.unset).toArray = ls at hl ⊢
  have hl : lv_has ls 6 [(0, .ref (ad 0)), (1, .int (iI pz1)), (2, .int (iI pz2)), (3, .int (iI pz3)), (4, .int (iI pz4))] := hl
  unfold s_X8_begins at hs
  have Lz18 : ∀ (fu : Nat) (l1 : Int) (l2 : Int) (l3 : Int) (l4 : Int) (l5 : Int), s_X8_begins_18 fu x_isFolding a_bytes l1 l2 l3 l4 l5 = some r → ∀ ls : Array Slot, lv_has ls 6 [(0, .ref (ad 0)), (1, .int (iI l1)), (2, .int (iI l2)), (3, .int (iI l3)), (4, .int (iI l4)), (5, .int (iI l5))] → W p l e (headSpec wsX8_begins rm_X8_begins).room s m args below meth c s.heap [] 0 0 (MQ below (QR (some (.int (iI r)))) args s 0 0 (fun _ => False)) (F0 m 18 ls []) := by
    intro fu
    induction fu with
    | zero => intro l1 l2 l3 l4 l5 hs; cases hs
    | succ fu ih =>
      intro l1 l2 l3 l4 l5 hs ls hl
      rw [s_X8_begins_18_s] at hs
      refine lv_iload hx hb dX8_begins_18 (lv_at hl 5 rfl) ?_
      refine lv_iload_n hx hb dX8_begins_20 rfl (lv_at hl 3 rfl) ?_
      refine k_icmp_ge (tgt := 56) hx hb hs dX8_begins_21 (by decide) (fun hs => ?_) (fun hs => ?_)
      · refine lv_aload_n hx hb dX8_begins_24 rfl (lv_at hl 0 rfl) ?_
        refine lv_aload_n hx hb dX8_begins_25 rfl (lv_at hl 0 rfl) ?_
        refine lv_iload_n hx hb dX8_begins_26 rfl (lv_at hl 1 rfl) ?_
        refine lv_iload hx hb dX8_begins_27 (lv_at hl 5 rfl) ?_
        obtain ⟨vz2, hcz, hs⟩ := bd1_some hs
        refine k_rV (As := [.int (iI l1), .int (iI l5)]) (rest := [.ref (ad 0)]) (st1 := [.int (iI vz2), .ref (ad 0)]) ⟨hx, hb, hml, hown, hts⟩ hK hP (c_X8_byteOf l D cI cZ cJ hcz) (cwV 2 hts gX8_begins_X8_byteOf rfl rfl rfl (by decide +kernel) ⟨Nat.le_of_ble_eq_true rfl, Nat.le_of_ble_eq_true rfl⟩) 0 rfl rfl rfl rfl hl.1 rfl (lv_room (Nat.le_of_ble_eq_true rfl)) dX8_begins_29 ⟨Nat.zero_le _, Nat.zero_le _⟩ rfl ?_
        refine lv_aload_n hx hb dX8_begins_32 rfl (lv_at hl 0 rfl) ?_
        refine lv_iload hx hb dX8_begins_33 (lv_at hl 4 rfl) ?_
        refine lv_iload hx hb dX8_begins_35 (lv_at hl 5 rfl) ?_
        refine lv_iload_n hx hb dX8_begins_37 rfl (lv_at hl 2 rfl) ?_
        refine k_isub hx hb dX8_begins_38 ?_
        obtain ⟨vz3, hcz, hs⟩ := bd1_some hs
        refine k_rV (As := [.int (iI l4), .int (iI (l5 - l2))]) (rest := [.int (iI vz2), .ref (ad 0)]) (st1 := [.int (iI vz3), .int (iI vz2), .ref (ad 0)]) ⟨hx, hb, hml, hown, hts⟩ hK hP (c_X8_byteOf l D cI cZ cJ hcz) (cwV 2 hts gX8_begins_X8_byteOf rfl rfl rfl (by decide +kernel) ⟨Nat.le_of_ble_eq_true rfl, Nat.le_of_ble_eq_true rfl⟩) 0 rfl rfl rfl rfl hl.1 rfl (lv_room (Nat.le_of_ble_eq_true rfl)) dX8_begins_39 ⟨Nat.zero_le _, Nat.zero_le _⟩ rfl ?_
        obtain ⟨vz4, hcz, hs⟩ := bd1_some hs
        refine k_rV (As := [.int (iI vz2), .int (iI vz3)]) (rest := []) (st1 := [.int (iI vz4)]) ⟨hx, hb, hml, hown, hts⟩ hK hP (c_X8_like l D cI cZ cJ hcz) (cwV 2 hts gX8_begins_X8_like rfl rfl rfl (by decide +kernel) ⟨Nat.le_of_ble_eq_true rfl, Nat.le_of_ble_eq_true rfl⟩) 0 rfl rfl rfl rfl hl.1 rfl (lv_room (Nat.le_of_ble_eq_true rfl)) dX8_begins_42 ⟨Nat.zero_le _, Nat.zero_le _⟩ rfl ?_
        refine k_if_ne (tgt := 50) hx hb hs dX8_begins_45 (by decide) (fun hs => ?_) (fun hs => ?_)
        · refine k_iconst (n := 0) hx hb dX8_begins_48 ?_
          cases hs
          exact k_zret_r hx hb hr hlk rfl (by decide) dX8_begins_49 rfl
        · refine k_iinc (x := l5) (k := 5) (lv' := [(5, .int (iI (l5 + 1))), (0, .ref (ad 0)), (1, .int (iI l1)), (2, .int (iI l2)), (3, .int (iI l3)), (4, .int (iI l4))]) hx hb dX8_begins_50 hl rfl (by decide) rfl (fun ls hl => ?_)
          refine lv_goto (tgt := 18) hx hb dX8_begins_53 (by decide) ?_
          exact ih l1 l2 l3 l4 (l5 + 1)  hs ls (lv_sub hl [1, 2, 3, 4, 5, 0] rfl)
      · refine k_iconst (n := 1) hx hb dX8_begins_56 ?_
        cases hs
        exact k_zret_r hx hb hr hlk rfl (by decide) dX8_begins_57 rfl
  refine lv_aload_n hx hb dX8_begins_0 rfl (lv_at hl 0 rfl) ?_
  refine va_get (ci := 8) (v := .ref (ad 2)) (C := RX8) (T := TX8) (N := 42) hx hb hts hiX8 hown hK hP 0 rfl rfl 3 (by decide) hf17 (fun _ h9 => h9) rfl dX8_begins_1 ?_
  refine lv_iload hx hb dX8_begins_4 (lv_at hl 4 rfl) ?_
  refine k_iald hx hb hK hP 2 0 rfl rfl (Nat.le_of_ble_eq_true rfl) hs dX8_begins_6 (fun vz1 hs => ?_)
  refine lv_iload_n hx hb dX8_begins_7 rfl (lv_at hl 3 rfl) ?_
  refine lv_iload_n hx hb dX8_begins_8 rfl (lv_at hl 2 rfl) ?_
  refine k_isub hx hb dX8_begins_9 ?_
  refine k_icmp_ge (tgt := 15) hx hb hs dX8_begins_10 (by decide) (fun hs => ?_) (fun hs => ?_)
  · refine k_iconst (n := 0) hx hb dX8_begins_13 ?_
    cases hs
    exact k_zret_r hx hb hr hlk rfl (by decide) dX8_begins_14 rfl
  · refine lv_iload_n hx hb dX8_begins_15 rfl (lv_at hl 2 rfl) ?_
    refine lv_istore (lv' := [(5, .int (iI pz2)), (0, .ref (ad 0)), (1, .int (iI pz1)), (2, .int (iI pz2)), (3, .int (iI pz3)), (4, .int (iI pz4))]) hx hb dX8_begins_16 hl (by decide) rfl (fun ls hl => ?_)
    exact Lz18 FU pz1 pz2 pz3 pz4 pz2 hs ls (lv_sub hl [1, 2, 3, 4, 5, 0] rfl)
/-! X8_failureLength -/
set_option maxHeartbeats 4000000 in
set_option maxRecDepth 100000 in
theorem c_X8_failureLength (l : Launch) (D : va_G) (cI cZ cJ : ClassId) {ad : Nat → Nat} {x_thrown : Int} {x_buffered : Int} {x_given : Int} {x_isFolding : Int} {x_work : Int} {x_rebuilt : Int} {x_streamed : Int} {x_reports : Int} {x_gapFrom : Int} {x_gapSize : Int} {x_elements : Int} {x_wholeSize : Int} {x_isLaid : Int} {x_takenMany : Int} {a_buffer : (Int → Int)} {a_length : (Int → Int)} {a_bytes : (Int → Int)} {a_weight : (Int → Int)} {a_live : (Int → Int)} {a_size : (Int → Int)} {a_list : (Int → Int)} {a_moved : (Int → Int)} {a_planned : (Int → Int)} {a_stream : (Int → Int)} {a_reportedEnd : (Int → Int)} {a_reportedKeyword : (Int → Int)} {a_starts : (Int → Int)} {a_keywordAt : (Int → Int)} {a_element : (Int → Int)} {a_long1 : (Int → Int)} {a_head : (Int → Int)} {a_tail : (Int → Int)} {a_next : (Int → Int)} {a_skip : (Int → Int)} {a_last : (Int → Int)} {a_whole : (Int → Int)} {a_edges : (Int → Int)} {a_covers : (Int → Int)} {a_weighs : (Int → Int)} {a_numbers : (Int → Int)} {a_takes : (Int → Int)} {a_takenAt : (Int → Int)} {pz1 : Int} {pz2 : Int} {r : Int} {y_x_thrown : Int} {sz : Nat} (hs : s_X8_failureLength x_thrown x_given x_isFolding a_length a_bytes a_size a_list pz1 pz2 = some (r, y_x_thrown)) : Met l yX8_failureLength wsX8_failureLength rm_X8_failureLength (PW D vwCl [(cI, .int), (cZ, .boolean), (cJ, .long)] [.ref (ad 0), .int (iI pz1), .int (iI pz2)] (wM cI cZ cJ ad x_thrown x_buffered x_given x_isFolding x_work x_rebuilt x_streamed x_reports x_gapFrom x_gapSize x_elements x_wholeSize x_isLaid x_takenMany a_buffer a_length a_bytes a_weight a_live a_size a_list a_moved a_planned a_stream a_reportedEnd a_reportedKeyword a_starts a_keywordAt a_element a_long1 a_head a_tail a_next a_skip a_last a_whole a_edges a_covers a_weighs a_numbers a_takes a_takenAt) sz) (QW D vwCl (some (.int (iI r))) (wM cI cZ cJ ad y_x_thrown x_buffered x_given x_isFolding x_work x_rebuilt x_streamed x_reports x_gapFrom x_gapSize x_elements x_wholeSize x_isLaid x_takenMany a_buffer a_length a_bytes a_weight a_live a_size a_list a_moved a_planned a_stream a_reportedEnd a_reportedKeyword a_starts a_keywordAt a_element a_long1 a_head a_tail a_next a_skip a_last a_whole a_edges a_covers a_weighs a_numbers a_takes a_takenAt) (va_A (wM cI cZ cJ ad x_thrown x_buffered x_given x_isFolding x_work x_rebuilt x_streamed x_reports x_gapFrom x_gapSize x_elements x_wholeSize x_isLaid x_takenMany a_buffer a_length a_bytes a_weight a_live a_size a_list a_moved a_planned a_stream a_reportedEnd a_reportedKeyword a_starts a_keywordAt a_element a_long1 a_head a_tail a_next a_skip a_last a_whole a_edges a_covers a_weighs a_numbers a_takes a_takenAt) sz)) 0 0 (va_A (wM cI cZ cJ ad x_thrown x_buffered x_given x_isFolding x_work x_rebuilt x_streamed x_reports x_gapFrom x_gapSize x_elements x_wholeSize x_isLaid x_takenMany a_buffer a_length a_bytes a_weight a_live a_size a_list a_moved a_planned a_stream a_reportedEnd a_reportedKeyword a_starts a_keywordAt a_element a_long1 a_head a_tail a_next a_skip a_last a_whole a_edges a_covers a_weighs a_numbers a_takes a_takenAt) sz) := by
  refine Met.ofW (cc := cX8_failureLength) (maxL := 6) (ret := (some .int)) (by decide) rfl ?_
  intro p e s m args below meth c s₁ B hml hv
  obtain ⟨hav, hsz, hP, hK, hD0⟩ := hv
  have hx := B.exec
  have hb := B.bytes
  have hr := B.returns
  have hts := atoms_spec (ws := wsX8_failureLength) B.pre
  have hown : s.vm.findClass RX8 = some m.cls := findClass_of_methodNamed B.named
  have hlk := B.notSynchronized
  have hf1 : (Cond.fieldLink RX8 1 "KeywordMatcherModel" "thrown" "I").before args s = true := hts _ (List.mem_of_getElem? (i := 1) rfl)
  have hiX8 : ∀ w ∈ wsX80, w ∈ wsX8_failureLength := fun w h => List.mem_cons_of_mem _ (List.mem_append_right _ h)
  have hf17 : (Cond.fieldLink RX8 17 "KeywordMatcherModel" "length" "[I").before args s = true := hts _ (List.mem_of_getElem? (i := 2) rfl)
  have hf30 : (Cond.fieldLink RX8 30 "KeywordMatcherModel" "size" "[I").before args s = true := hts _ (List.mem_of_getElem? (i := 3) rfl)
  have hf33 : (Cond.fieldLink RX8 33 "KeywordMatcherModel" "list" "[I").before args s = true := hts _ (List.mem_of_getElem? (i := 4) rfl)
  subst hsz
  have hD := hD0.self (sz := s.heap.size)
  generalize hAe : va_A (wM cI cZ cJ ad x_thrown x_buffered x_given x_isFolding x_work x_rebuilt x_streamed x_reports x_gapFrom x_gapSize x_elements x_wholeSize x_isLaid x_takenMany a_buffer a_length a_bytes a_weight a_live a_size a_list a_moved a_planned a_stream a_reportedEnd a_reportedKeyword a_starts a_keywordAt a_element a_long1 a_head a_tail a_next a_skip a_last a_whole a_edges a_covers a_weighs a_numbers a_takes a_takenAt) s.heap.size = Az at hD ⊢
  have hA : ∀ q : Nat, s.heap.size ≤ q → Az q := fun q h => by rw [← hAe]; exact Or.inr h
  clear hAe
  have hSz : va_S Az s.heap s.heap [] := va_S.rf
  obtain ⟨wz, hw1⟩ : ∃ z : va_W, z = (wM cI cZ cJ ad y_x_thrown x_buffered x_given x_isFolding x_work x_rebuilt x_streamed x_reports x_gapFrom x_gapSize x_elements x_wholeSize x_isLaid x_takenMany a_buffer a_length a_bytes a_weight a_live a_size a_list a_moved a_planned a_stream a_reportedEnd a_reportedKeyword a_starts a_keywordAt a_element a_long1 a_head a_tail a_next a_skip a_last a_whole a_edges a_covers a_weighs a_numbers a_takes a_takenAt) := ⟨_, rfl⟩
  rw [← hw1]
  have hl := lv_entry ([.ref (ad 0), .int (iI pz1), .int (iI pz2)]) (n := 6) (Nat.le_of_ble_eq_true rfl)
  rw [show entryFrame m args 6 = entryFrame m ([.ref (ad 0), .int (iI pz1), .int (iI pz2)] : List Value).toArray 6 from by rw [hav], lg_entry_eq]
  generalize (lg_sl ([.ref (ad 0), .int (iI pz1), .int (iI pz2)]) ++ List.replicate (6 - (lg_sl ([.ref (ad 0), .int (iI pz1), .int (iI pz2)])).length) Slot.unset).toArray = ls at hl ⊢
  have hl : lv_has ls 6 [(0, .ref (ad 0)), (1, .int (iI pz1)), (2, .int (iI pz2))] := hl
  unfold s_X8_failureLength at hs
  have Lz61 : ∀ (fu : Nat) (x_thrown : Int) (l1 : Int) (l2 : Int) (l3 : Int) (l4 : Int) (l5 : Int) (outz : (Int × Int) ⊕ (Unit)), s_X8_failureLength_61 fu x_thrown x_isFolding a_length a_bytes a_size a_list l1 l2 l3 l4 l5 = some outz → ∀ (Hz : Heap) (lz : List Loc), va_P D vwCl (wM cI cZ cJ ad x_thrown x_buffered x_given x_isFolding x_work x_rebuilt x_streamed x_reports x_gapFrom x_gapSize x_elements x_wholeSize x_isLaid x_takenMany a_buffer a_length a_bytes a_weight a_live a_size a_list a_moved a_planned a_stream a_reportedEnd a_reportedKeyword a_starts a_keywordAt a_element a_long1 a_head a_tail a_next a_skip a_last a_whole a_edges a_covers a_weighs a_numbers a_takes a_takenAt) Hz → va_D Az (wM cI cZ cJ ad x_thrown x_buffered x_given x_isFolding x_work x_rebuilt x_streamed x_reports x_gapFrom x_gapSize x_elements x_wholeSize x_isLaid x_takenMany a_buffer a_length a_bytes a_weight a_live a_size a_list a_moved a_planned a_stream a_reportedEnd a_reportedKeyword a_starts a_keywordAt a_element a_long1 a_head a_tail a_next a_skip a_last a_whole a_edges a_covers a_weighs a_numbers a_takes a_takenAt) → va_S Az s.heap Hz lz → ∀ ls : Array Slot, lv_has ls 6 [(0, .ref (ad 0)), (1, .int (iI l1)), (2, .int (iI l2)), (3, .int (iI l3)), (4, .int (iI l4)), (5, .int (iI l5))] → (∀ rr, outz = .inl rr → rr = (r, y_x_thrown)) → (outz = .inr () → ∀ (Hz : Heap) (lz : List Loc), va_P D vwCl (wM cI cZ cJ ad x_thrown x_buffered x_given x_isFolding x_work x_rebuilt x_streamed x_reports x_gapFrom x_gapSize x_elements x_wholeSize x_isLaid x_takenMany a_buffer a_length a_bytes a_weight a_live a_size a_list a_moved a_planned a_stream a_reportedEnd a_reportedKeyword a_starts a_keywordAt a_element a_long1 a_head a_tail a_next a_skip a_last a_whole a_edges a_covers a_weighs a_numbers a_takes a_takenAt) Hz → va_D Az (wM cI cZ cJ ad x_thrown x_buffered x_given x_isFolding x_work x_rebuilt x_streamed x_reports x_gapFrom x_gapSize x_elements x_wholeSize x_isLaid x_takenMany a_buffer a_length a_bytes a_weight a_live a_size a_list a_moved a_planned a_stream a_reportedEnd a_reportedKeyword a_starts a_keywordAt a_element a_long1 a_head a_tail a_next a_skip a_last a_whole a_edges a_covers a_weighs a_numbers a_takes a_takenAt) → va_S Az s.heap Hz lz → ∀ ls : Array Slot, lv_has ls 6 [(0, .ref (ad 0)), (1, .int (iI l1)), (2, .int (iI l2)), (3, .int (iI l3)), (4, .int (iI l4))] → W p l e (headSpec wsX8_failureLength rm_X8_failureLength).room s m args below meth c Hz lz 0 0 (MQ below (QW D vwCl (some (.int (iI r))) wz Az) args s 0 0 Az) (F0 m 107 ls [])) → W p l e (headSpec wsX8_failureLength rm_X8_failureLength).room s m args below meth c Hz lz 0 0 (MQ below (QW D vwCl (some (.int (iI r))) wz Az) args s 0 0 Az) (F0 m 61 ls []) := by
    intro fu
    induction fu with
    | zero => intro x_thrown l1 l2 l3 l4 l5 outz hs; cases hs
    | succ fu ih =>
      intro x_thrown l1 l2 l3 l4 l5 outz hs Hz lz hP hD hSz ls hl kr kx
      rw [s_X8_failureLength_61_s] at hs
      refine lv_iload hx hb dX8_failureLength_61 (lv_at hl 5 rfl) ?_
      refine lv_aload_n hx hb dX8_failureLength_63 rfl (lv_at hl 0 rfl) ?_
      refine va_get (ci := 8) (v := .ref (ad 6)) (C := RX8) (T := TX8) (N := 42) hx hb hts hiX8 hown hK hP 0 rfl rfl 9 (by decide) hf30 (fun _ h9 => h9) rfl dX8_failureLength_64 ?_
      refine lv_iload_n hx hb dX8_failureLength_67 rfl (lv_at hl 3 rfl) ?_
      refine k_iald hx hb hK hP 6 0 rfl rfl (Nat.le_of_ble_eq_true rfl) hs dX8_failureLength_68 (fun vz5 hs => ?_)
      refine k_icmp_ge (tgt := 107) hx hb hs dX8_failureLength_69 (by decide) (fun hs => ?_) (fun hs => ?_)
      · refine lv_aload_n hx hb dX8_failureLength_72 rfl (lv_at hl 0 rfl) ?_
        refine lv_iload_n hx hb dX8_failureLength_73 rfl (lv_at hl 1 rfl) ?_
        refine lv_iload_n hx hb dX8_failureLength_74 rfl (lv_at hl 2 rfl) ?_
        refine lv_iload hx hb dX8_failureLength_75 (lv_at hl 4 rfl) ?_
        refine k_isub hx hb dX8_failureLength_77 ?_
        refine lv_iload_n hx hb dX8_failureLength_78 rfl (lv_at hl 2 rfl) ?_
        refine lv_aload_n hx hb dX8_failureLength_79 rfl (lv_at hl 0 rfl) ?_
        refine va_get (ci := 8) (v := .ref (ad 7)) (C := RX8) (T := TX8) (N := 42) hx hb hts hiX8 hown hK hP 0 rfl rfl 10 (by decide) hf33 (fun _ h9 => h9) rfl dX8_failureLength_80 ?_
        refine k_sipush (n := 128) hx hb (by decide) dX8_failureLength_83 ?_
        refine lv_iload_n hx hb dX8_failureLength_86 rfl (lv_at hl 3 rfl) ?_
        refine k_imul hx hb dX8_failureLength_87 ?_
        refine lv_iload hx hb dX8_failureLength_88 (lv_at hl 5 rfl) ?_
        refine k_iadd hx hb dX8_failureLength_90 ?_
        refine k_iald hx hb hK hP 7 0 rfl rfl (Nat.le_of_ble_eq_true rfl) hs dX8_failureLength_91 (fun vz6 hs => ?_)
        obtain ⟨vz7, hcz, hs⟩ := bd1_some hs
        refine k_rV (As := [.int (iI l1), .int (iI (l2 - l4)), .int (iI l2), .int (iI vz6)]) (rest := []) (st1 := [.int (iI vz7)]) ⟨hx, hb, hml, hown, hts⟩ hK hP (c_X8_begins l D cI cZ cJ hcz) (cwV 4 hts gX8_failureLength_X8_begins rfl rfl rfl (by decide +kernel) ⟨Nat.le_of_ble_eq_true rfl, Nat.le_of_ble_eq_true rfl⟩) 0 rfl rfl rfl rfl hl.1 rfl (lv_room (Nat.le_of_ble_eq_true rfl)) dX8_failureLength_92 ⟨Nat.zero_le _, Nat.zero_le _⟩ rfl ?_
        refine k_if_eq (tgt := 101) hx hb hs dX8_failureLength_95 (by decide) (fun hs => ?_) (fun hs => ?_)
        · refine k_iinc (x := l5) (k := 5) (lv' := [(5, .int (iI (l5 + 1))), (0, .ref (ad 0)), (1, .int (iI l1)), (2, .int (iI l2)), (3, .int (iI l3)), (4, .int (iI l4))]) hx hb dX8_failureLength_101 hl rfl (by decide) rfl (fun ls hl => ?_)
          refine lv_goto (tgt := 61) hx hb dX8_failureLength_104 (by decide) ?_
          exact ih x_thrown l1 l2 l3 l4 (l5 + 1) outz hs Hz lz hP hD hSz ls (lv_sub hl [1, 2, 3, 4, 5, 0] rfl) kr kx
        · refine lv_iload hx hb dX8_failureLength_98 (lv_at hl 4 rfl) ?_
          have hs := kr _ (Option.some.inj hs).symm
          cases hs
          exact k_iret_w hx hb hr hlk (by rw [hw1]; exact hP) hSz dX8_failureLength_100 rfl
      · cases hs
        exact kx  rfl Hz lz hP hD hSz ls (lv_sub hl [0, 1, 2, 3, 4] rfl)
  have Lz53 : ∀ (fu : Nat) (x_thrown : Int) (l1 : Int) (l2 : Int) (l3 : Int) (l4 : Int), s_X8_failureLength_53 fu x_thrown x_isFolding a_length a_bytes a_size a_list l1 l2 l3 l4 = some (r, y_x_thrown) → ∀ (Hz : Heap) (lz : List Loc), va_P D vwCl (wM cI cZ cJ ad x_thrown x_buffered x_given x_isFolding x_work x_rebuilt x_streamed x_reports x_gapFrom x_gapSize x_elements x_wholeSize x_isLaid x_takenMany a_buffer a_length a_bytes a_weight a_live a_size a_list a_moved a_planned a_stream a_reportedEnd a_reportedKeyword a_starts a_keywordAt a_element a_long1 a_head a_tail a_next a_skip a_last a_whole a_edges a_covers a_weighs a_numbers a_takes a_takenAt) Hz → va_D Az (wM cI cZ cJ ad x_thrown x_buffered x_given x_isFolding x_work x_rebuilt x_streamed x_reports x_gapFrom x_gapSize x_elements x_wholeSize x_isLaid x_takenMany a_buffer a_length a_bytes a_weight a_live a_size a_list a_moved a_planned a_stream a_reportedEnd a_reportedKeyword a_starts a_keywordAt a_element a_long1 a_head a_tail a_next a_skip a_last a_whole a_edges a_covers a_weighs a_numbers a_takes a_takenAt) → va_S Az s.heap Hz lz → ∀ ls : Array Slot, lv_has ls 6 [(0, .ref (ad 0)), (1, .int (iI l1)), (2, .int (iI l2)), (3, .int (iI l3)), (4, .int (iI l4))] → W p l e (headSpec wsX8_failureLength rm_X8_failureLength).room s m args below meth c Hz lz 0 0 (MQ below (QW D vwCl (some (.int (iI r))) wz Az) args s 0 0 Az) (F0 m 53 ls []) := by
    intro fu
    induction fu with
    | zero => intro x_thrown l1 l2 l3 l4 hs; cases hs
    | succ fu ih =>
      intro x_thrown l1 l2 l3 l4 hs Hz lz hP hD hSz ls hl
      rw [s_X8_failureLength_53_s] at hs
      refine lv_iload hx hb dX8_failureLength_53 (lv_at hl 4 rfl) ?_
      refine k_if_le (tgt := 113) hx hb hs dX8_failureLength_55 (by decide) (fun hs => ?_) (fun hs => ?_)
      · refine k_iconst (n := 0) hx hb dX8_failureLength_58 ?_
        refine lv_istore (lv' := [(5, .int (iI 0)), (0, .ref (ad 0)), (1, .int (iI l1)), (2, .int (iI l2)), (3, .int (iI l3)), (4, .int (iI l4))]) hx hb dX8_failureLength_59 hl (by decide) rfl (fun ls hl => ?_)
        rcases bdS0_some hs with ⟨rz8, hq, hs⟩ | ⟨hq, hs⟩
        · refine Lz61 FU x_thrown l1 l2 l3 l4 0 (.inl rz8) hq Hz lz hP hD hSz ls (lv_sub hl [1, 2, 3, 4, 5, 0] rfl) (fun r9 h9 => by cases h9; exact Option.some.inj hs) (fun  h9 => by cases h9)
        · refine Lz61 FU x_thrown l1 l2 l3 l4 0 (.inr ()) hq Hz lz hP hD hSz ls (lv_sub hl [1, 2, 3, 4, 5, 0] rfl) (fun r9 h9 => by cases h9) ?_
          intro  h9 Hz lz hP hD hSz ls hl
          cases h9
          refine k_iinc (x := l4) (k := 4) (lv' := [(4, .int (iI (l4 + (-1)))), (0, .ref (ad 0)), (1, .int (iI l1)), (2, .int (iI l2)), (3, .int (iI l3))]) hx hb dX8_failureLength_107 hl rfl (by decide) rfl (fun ls hl => ?_)
          refine lv_goto (tgt := 53) hx hb dX8_failureLength_110 (by decide) ?_
          exact ih x_thrown l1 l2 l3 (l4 + (-1))  hs Hz lz hP hD hSz ls (lv_sub hl [1, 2, 3, 4, 0] rfl)
      · refine k_iconst (n := 0) hx hb dX8_failureLength_113 ?_
        cases hs
        exact k_iret_w hx hb hr hlk (by rw [hw1]; exact hP) hSz dX8_failureLength_114 rfl
  refine (?_ : ∀ (Hz : Heap) (lz : List Loc), va_P D vwCl (wM cI cZ cJ ad x_thrown x_buffered x_given x_isFolding x_work x_rebuilt x_streamed x_reports x_gapFrom x_gapSize x_elements x_wholeSize x_isLaid x_takenMany a_buffer a_length a_bytes a_weight a_live a_size a_list a_moved a_planned a_stream a_reportedEnd a_reportedKeyword a_starts a_keywordAt a_element a_long1 a_head a_tail a_next a_skip a_last a_whole a_edges a_covers a_weighs a_numbers a_takes a_takenAt) Hz → va_D Az (wM cI cZ cJ ad x_thrown x_buffered x_given x_isFolding x_work x_rebuilt x_streamed x_reports x_gapFrom x_gapSize x_elements x_wholeSize x_isLaid x_takenMany a_buffer a_length a_bytes a_weight a_live a_size a_list a_moved a_planned a_stream a_reportedEnd a_reportedKeyword a_starts a_keywordAt a_element a_long1 a_head a_tail a_next a_skip a_last a_whole a_edges a_covers a_weighs a_numbers a_takes a_takenAt) → va_S Az s.heap Hz lz → W p l e (headSpec wsX8_failureLength rm_X8_failureLength).room s m args below meth c Hz lz 0 0 (MQ below (QW D vwCl (some (.int (iI r))) wz Az) args s 0 0 Az) (F0 m 0 ls [])) s.heap [] hP hD hSz
  intro Hz lz hP hD hSz
  refine lv_aload_n hx hb dX8_failureLength_0 rfl (lv_at hl 0 rfl) ?_
  refine k_iconst (n := 0) hx hb dX8_failureLength_1 ?_
  refine va_put (ci := 8) (v := .int (iI 0)) (ty := .int) (C := RX8) (T := TX8) (N := 42) hx hb hts hiX8 tyX8 tyX8_ok nmX8 hown hK hP hD hSz 0 rfl rfl 0 (by decide) hf1 (fun _ h9 => h9) rfl (by decide +kernel) rfl rfl (Nat.le_of_ble_eq_true rfl) dX8_failureLength_2 (fun Hz lz hP hD hSz => ?_)
  have hP : va_P D vwCl (wM cI cZ cJ ad 0 x_buffered x_given x_isFolding x_work x_rebuilt x_streamed x_reports x_gapFrom x_gapSize x_elements x_wholeSize x_isLaid x_takenMany a_buffer a_length a_bytes a_weight a_live a_size a_list a_moved a_planned a_stream a_reportedEnd a_reportedKeyword a_starts a_keywordAt a_element a_long1 a_head a_tail a_next a_skip a_last a_whole a_edges a_covers a_weighs a_numbers a_takes a_takenAt) Hz := hP
  have hD : va_D Az (wM cI cZ cJ ad 0 x_buffered x_given x_isFolding x_work x_rebuilt x_streamed x_reports x_gapFrom x_gapSize x_elements x_wholeSize x_isLaid x_takenMany a_buffer a_length a_bytes a_weight a_live a_size a_list a_moved a_planned a_stream a_reportedEnd a_reportedKeyword a_starts a_keywordAt a_element a_long1 a_head a_tail a_next a_skip a_last a_whole a_edges a_covers a_weighs a_numbers a_takes a_takenAt) := hD
  refine lv_aload_n hx hb dX8_failureLength_5 rfl (lv_at hl 0 rfl) ?_
  refine lv_iload_n hx hb dX8_failureLength_6 rfl (lv_at hl 1 rfl) ?_
  obtain ⟨vz1, hcz, hs⟩ := bd1_some hs
  refine k_rV (As := [.int (iI pz1)]) (rest := []) (st1 := [.int (iI vz1)]) ⟨hx, hb, hml, hown, hts⟩ hK hP (c_X8_isGiven l D cI cZ cJ hcz) (cwV 1 hts gX8_failureLength_X8_isGiven rfl rfl rfl (by decide +kernel) ⟨Nat.le_of_ble_eq_true rfl, Nat.le_of_ble_eq_true rfl⟩) 0 rfl rfl rfl rfl hl.1 rfl (lv_room (Nat.le_of_ble_eq_true rfl)) dX8_failureLength_7 ⟨Nat.zero_le _, Nat.zero_le _⟩ rfl ?_
  refine k_if_ne (tgt := 16) hx hb hs dX8_failureLength_10 (by decide) (fun hs => ?_) (fun hs => ?_)
  · refine k_bipush (n := (-2)) hx hb (by decide) dX8_failureLength_13 ?_
    cases hs
    exact k_iret_w hx hb hr hlk (by rw [hw1]; exact hP) hSz dX8_failureLength_15 rfl
  · refine lv_iload_n hx hb dX8_failureLength_16 rfl (lv_at hl 2 rfl) ?_
    refine k_i2l hx hb hs dX8_failureLength_17 (fun hs => ?_)
    refine k_lconst (v := 1) hx hb (by decide) dX8_failureLength_18 ?_
    refine lv_aload_n hx hb dX8_failureLength_19 rfl (lv_at hl 0 rfl) ?_
    refine va_get (ci := 8) (v := .ref (ad 2)) (C := RX8) (T := TX8) (N := 42) hx hb hts hiX8 hown hK hP 0 rfl rfl 3 (by decide) hf17 (fun _ h9 => h9) rfl dX8_failureLength_20 ?_
    refine lv_iload_n hx hb dX8_failureLength_23 rfl (lv_at hl 1 rfl) ?_
    refine k_iald hx hb hK hP 2 0 rfl rfl (Nat.le_of_ble_eq_true rfl) hs dX8_failureLength_24 (fun vz2 hs => ?_)
    refine k_i2l hx hb hs dX8_failureLength_25 (fun hs => ?_)
    obtain ⟨vz3, hcz, hs⟩ := bd1_some hs
    refine k_rS (As := [.long (iL pz2), .long (iL 1), .long (iL vz2)]) (rest := []) (st1 := [.int (iI vz3)]) ⟨hx, hb, hml, hown, hts⟩ hK (va_P_nil (D := D) (cl := vwCl)) (c_X8_isIn l D cI cZ cJ hcz) (va_cwS 3 hts gX8_failureLength_X8_isIn rfl rfl rfl (by decide +kernel) ⟨Nat.le_of_ble_eq_true rfl, Nat.le_of_ble_eq_true rfl⟩) rfl hl.1 rfl (lv_room (Nat.le_of_ble_eq_true rfl)) dX8_failureLength_26 ⟨Nat.zero_le _, Nat.zero_le _⟩ rfl ?_
    refine k_if_ne (tgt := 35) hx hb hs dX8_failureLength_29 (by decide) (fun hs => ?_) (fun hs => ?_)
    · refine k_bipush (n := (-3)) hx hb (by decide) dX8_failureLength_32 ?_
      cases hs
      exact k_iret_w hx hb hr hlk (by rw [hw1]; exact hP) hSz dX8_failureLength_34 rfl
    · refine lv_aload_n hx hb dX8_failureLength_35 rfl (lv_at hl 0 rfl) ?_
      refine lv_iload_n hx hb dX8_failureLength_36 rfl (lv_at hl 1 rfl) ?_
      obtain ⟨vz4, hcz, hs⟩ := bd1_some hs
      refine k_rV (As := [.int (iI pz1)]) (rest := []) (st1 := [.int (iI vz4)]) ⟨hx, hb, hml, hown, hts⟩ hK hP (c_X8_levelFound l D cI cZ cJ hcz) (cwV 1 hts gX8_failureLength_X8_levelFound rfl rfl rfl (by decide +kernel) ⟨Nat.le_of_ble_eq_true rfl, Nat.le_of_ble_eq_true rfl⟩) 0 rfl rfl rfl rfl hl.1 rfl (lv_room (Nat.le_of_ble_eq_true rfl)) dX8_failureLength_37 ⟨Nat.zero_le _, Nat.zero_le _⟩ rfl ?_
      refine lv_istore_n (lv' := [(3, .int (iI vz4)), (0, .ref (ad 0)), (1, .int (iI pz1)), (2, .int (iI pz2))]) hx hb dX8_failureLength_40 rfl hl (by decide) rfl (fun ls hl => ?_)
      refine lv_iload_n hx hb dX8_failureLength_41 rfl (lv_at hl 0 rfl) ?_
      refine k_iconst (n := (-1)) hx hb dX8_failureLength_42 ?_
      refine k_icmp_ne (tgt := 48) hx hb hs dX8_failureLength_43 (by decide) (fun hs => ?_) (fun hs => ?_)
      · refine k_iconst (n := (-1)) hx hb dX8_failureLength_46 ?_
        cases hs
        exact k_iret_w hx hb hr hlk (by rw [hw1]; exact hP) hSz dX8_failureLength_47 rfl
      · refine lv_iload_n hx hb dX8_failureLength_48 rfl (lv_at hl 3 rfl) ?_
        refine k_iconst (n := 1) hx hb dX8_failureLength_49 ?_
        refine k_isub hx hb dX8_failureLength_50 ?_
        refine lv_istore (lv' := [(4, .int (iI (pz2 - 1))), (3, .int (iI vz4)), (0, .ref (ad 0)), (1, .int (iI pz1)), (2, .int (iI pz2))]) hx hb dX8_failureLength_51 hl (by decide) rfl (fun ls hl => ?_)
        exact Lz53 FU 0 pz1 pz2 vz4 (pz2 - 1) hs Hz lz hP hD hSz ls (lv_sub hl [2, 3, 4, 1, 0] rfl)
/-! X8_buildWork -/
set_option maxHeartbeats 4000000 in
set_option maxRecDepth 100000 in
theorem c_X8_buildWork (l : Launch) (D : va_G) (cI cZ cJ : ClassId) {ad : Nat → Nat} {x_thrown : Int} {x_buffered : Int} {x_given : Int} {x_isFolding : Int} {x_work : Int} {x_rebuilt : Int} {x_streamed : Int} {x_reports : Int} {x_gapFrom : Int} {x_gapSize : Int} {x_elements : Int} {x_wholeSize : Int} {x_isLaid : Int} {x_takenMany : Int} {a_buffer : (Int → Int)} {a_length : (Int → Int)} {a_bytes : (Int → Int)} {a_weight : (Int → Int)} {a_live : (Int → Int)} {a_size : (Int → Int)} {a_list : (Int → Int)} {a_moved : (Int → Int)} {a_planned : (Int → Int)} {a_stream : (Int → Int)} {a_reportedEnd : (Int → Int)} {a_reportedKeyword : (Int → Int)} {a_starts : (Int → Int)} {a_keywordAt : (Int → Int)} {a_element : (Int → Int)} {a_long1 : (Int → Int)} {a_head : (Int → Int)} {a_tail : (Int → Int)} {a_next : (Int → Int)} {a_skip : (Int → Int)} {a_last : (Int → Int)} {a_whole : (Int → Int)} {a_edges : (Int → Int)} {a_covers : (Int → Int)} {a_weighs : (Int → Int)} {a_numbers : (Int → Int)} {a_takes : (Int → Int)} {a_takenAt : (Int → Int)} {r : Int} {y_x_thrown : Int} {sz : Nat} (hs : s_X8_buildWork x_thrown x_work = some (r, y_x_thrown)) : Met l yX8_buildWork wsX8_buildWork rm_X8_buildWork (PW D vwCl [(cI, .int), (cZ, .boolean), (cJ, .long)] [.ref (ad 0)] (wM cI cZ cJ ad x_thrown x_buffered x_given x_isFolding x_work x_rebuilt x_streamed x_reports x_gapFrom x_gapSize x_elements x_wholeSize x_isLaid x_takenMany a_buffer a_length a_bytes a_weight a_live a_size a_list a_moved a_planned a_stream a_reportedEnd a_reportedKeyword a_starts a_keywordAt a_element a_long1 a_head a_tail a_next a_skip a_last a_whole a_edges a_covers a_weighs a_numbers a_takes a_takenAt) sz) (QW D vwCl (some (.int (iI r))) (wM cI cZ cJ ad y_x_thrown x_buffered x_given x_isFolding x_work x_rebuilt x_streamed x_reports x_gapFrom x_gapSize x_elements x_wholeSize x_isLaid x_takenMany a_buffer a_length a_bytes a_weight a_live a_size a_list a_moved a_planned a_stream a_reportedEnd a_reportedKeyword a_starts a_keywordAt a_element a_long1 a_head a_tail a_next a_skip a_last a_whole a_edges a_covers a_weighs a_numbers a_takes a_takenAt) (va_A (wM cI cZ cJ ad x_thrown x_buffered x_given x_isFolding x_work x_rebuilt x_streamed x_reports x_gapFrom x_gapSize x_elements x_wholeSize x_isLaid x_takenMany a_buffer a_length a_bytes a_weight a_live a_size a_list a_moved a_planned a_stream a_reportedEnd a_reportedKeyword a_starts a_keywordAt a_element a_long1 a_head a_tail a_next a_skip a_last a_whole a_edges a_covers a_weighs a_numbers a_takes a_takenAt) sz)) 0 0 (va_A (wM cI cZ cJ ad x_thrown x_buffered x_given x_isFolding x_work x_rebuilt x_streamed x_reports x_gapFrom x_gapSize x_elements x_wholeSize x_isLaid x_takenMany a_buffer a_length a_bytes a_weight a_live a_size a_list a_moved a_planned a_stream a_reportedEnd a_reportedKeyword a_starts a_keywordAt a_element a_long1 a_head a_tail a_next a_skip a_last a_whole a_edges a_covers a_weighs a_numbers a_takes a_takenAt) sz) := by
  refine Met.ofW (cc := cX8_buildWork) (maxL := 1) (ret := (some .int)) (by decide) rfl ?_
  intro p e s m args below meth c s₁ B hml hv
  obtain ⟨hav, hsz, hP, hK, hD0⟩ := hv
  have hx := B.exec
  have hb := B.bytes
  have hr := B.returns
  have hts := atoms_spec (ws := wsX8_buildWork) B.pre
  have hown : s.vm.findClass RX8 = some m.cls := findClass_of_methodNamed B.named
  have hlk := B.notSynchronized
  have hf1 : (Cond.fieldLink RX8 1 "KeywordMatcherModel" "thrown" "I").before args s = true := hts _ (List.mem_of_getElem? (i := 1) rfl)
  have hiX8 : ∀ w ∈ wsX80, w ∈ wsX8_buildWork := fun w h => List.mem_cons_of_mem _ (List.mem_append_right _ h)
  have hf173 : (Cond.fieldLink RX8 173 "KeywordMatcherModel" "work" "I").before args s = true := hts _ (List.mem_of_getElem? (i := 2) rfl)
  subst hsz
  have hD := hD0.self (sz := s.heap.size)
  generalize hAe : va_A (wM cI cZ cJ ad x_thrown x_buffered x_given x_isFolding x_work x_rebuilt x_streamed x_reports x_gapFrom x_gapSize x_elements x_wholeSize x_isLaid x_takenMany a_buffer a_length a_bytes a_weight a_live a_size a_list a_moved a_planned a_stream a_reportedEnd a_reportedKeyword a_starts a_keywordAt a_element a_long1 a_head a_tail a_next a_skip a_last a_whole a_edges a_covers a_weighs a_numbers a_takes a_takenAt) s.heap.size = Az at hD ⊢
  have hA : ∀ q : Nat, s.heap.size ≤ q → Az q := fun q h => by rw [← hAe]; exact Or.inr h
  clear hAe
  have hSz : va_S Az s.heap s.heap [] := va_S.rf
  obtain ⟨wz, hw1⟩ : ∃ z : va_W, z = (wM cI cZ cJ ad y_x_thrown x_buffered x_given x_isFolding x_work x_rebuilt x_streamed x_reports x_gapFrom x_gapSize x_elements x_wholeSize x_isLaid x_takenMany a_buffer a_length a_bytes a_weight a_live a_size a_list a_moved a_planned a_stream a_reportedEnd a_reportedKeyword a_starts a_keywordAt a_element a_long1 a_head a_tail a_next a_skip a_last a_whole a_edges a_covers a_weighs a_numbers a_takes a_takenAt) := ⟨_, rfl⟩
  rw [← hw1]
  have hl := lv_entry ([.ref (ad 0)]) (n := 1) (Nat.le_of_ble_eq_true rfl)
  rw [show entryFrame m args 1 = entryFrame m ([.ref (ad 0)] : List Value).toArray 1 from by rw [hav], lg_entry_eq]
  generalize (lg_sl ([.ref (ad 0)]) ++ List.replicate (1 - (lg_sl ([.ref (ad 0)])).length) Slot.unset).toArray = ls at hl ⊢
  have hl : lv_has ls 1 [(0, .ref (ad 0))] := hl
  unfold s_X8_buildWork at hs
  refine (?_ : ∀ (Hz : Heap) (lz : List Loc), va_P D vwCl (wM cI cZ cJ ad x_thrown x_buffered x_given x_isFolding x_work x_rebuilt x_streamed x_reports x_gapFrom x_gapSize x_elements x_wholeSize x_isLaid x_takenMany a_buffer a_length a_bytes a_weight a_live a_size a_list a_moved a_planned a_stream a_reportedEnd a_reportedKeyword a_starts a_keywordAt a_element a_long1 a_head a_tail a_next a_skip a_last a_whole a_edges a_covers a_weighs a_numbers a_takes a_takenAt) Hz → va_D Az (wM cI cZ cJ ad x_thrown x_buffered x_given x_isFolding x_work x_rebuilt x_streamed x_reports x_gapFrom x_gapSize x_elements x_wholeSize x_isLaid x_takenMany a_buffer a_length a_bytes a_weight a_live a_size a_list a_moved a_planned a_stream a_reportedEnd a_reportedKeyword a_starts a_keywordAt a_element a_long1 a_head a_tail a_next a_skip a_last a_whole a_edges a_covers a_weighs a_numbers a_takes a_takenAt) → va_S Az s.heap Hz lz → W p l e (headSpec wsX8_buildWork rm_X8_buildWork).room s m args below meth c Hz lz 0 0 (MQ below (QW D vwCl (some (.int (iI r))) wz Az) args s 0 0 Az) (F0 m 0 ls [])) s.heap [] hP hD hSz
  intro Hz lz hP hD hSz
  refine lv_aload_n hx hb dX8_buildWork_0 rfl (lv_at hl 0 rfl) ?_
  refine k_iconst (n := 0) hx hb dX8_buildWork_1 ?_
  refine va_put (ci := 8) (v := .int (iI 0)) (ty := .int) (C := RX8) (T := TX8) (N := 42) hx hb hts hiX8 tyX8 tyX8_ok nmX8 hown hK hP hD hSz 0 rfl rfl 0 (by decide) hf1 (fun _ h9 => h9) rfl (by decide +kernel) rfl rfl (Nat.le_of_ble_eq_true rfl) dX8_buildWork_2 (fun Hz lz hP hD hSz => ?_)
  have hP : va_P D vwCl (wM cI cZ cJ ad 0 x_buffered x_given x_isFolding x_work x_rebuilt x_streamed x_reports x_gapFrom x_gapSize x_elements x_wholeSize x_isLaid x_takenMany a_buffer a_length a_bytes a_weight a_live a_size a_list a_moved a_planned a_stream a_reportedEnd a_reportedKeyword a_starts a_keywordAt a_element a_long1 a_head a_tail a_next a_skip a_last a_whole a_edges a_covers a_weighs a_numbers a_takes a_takenAt) Hz := hP
  have hD : va_D Az (wM cI cZ cJ ad 0 x_buffered x_given x_isFolding x_work x_rebuilt x_streamed x_reports x_gapFrom x_gapSize x_elements x_wholeSize x_isLaid x_takenMany a_buffer a_length a_bytes a_weight a_live a_size a_list a_moved a_planned a_stream a_reportedEnd a_reportedKeyword a_starts a_keywordAt a_element a_long1 a_head a_tail a_next a_skip a_last a_whole a_edges a_covers a_weighs a_numbers a_takes a_takenAt) := hD
  refine lv_aload_n hx hb dX8_buildWork_5 rfl (lv_at hl 0 rfl) ?_
  refine va_get (ci := 8) (v := .int (iI x_work)) (C := RX8) (T := TX8) (N := 42) hx hb hts hiX8 hown hK hP 0 rfl rfl 12 (by decide) hf173 (fun _ h9 => h9) rfl dX8_buildWork_6 ?_
  cases hs
  exact k_iret_w hx hb hr hlk (by rw [hw1]; exact hP) hSz dX8_buildWork_9 rfl
/-! X8_plannedWork -/
set_option maxHeartbeats 4000000 in
set_option maxRecDepth 100000 in
theorem c_X8_plannedWork (l : Launch) (D : va_G) (cI cZ cJ : ClassId) {ad : Nat → Nat} {x_thrown : Int} {x_buffered : Int} {x_given : Int} {x_isFolding : Int} {x_work : Int} {x_rebuilt : Int} {x_streamed : Int} {x_reports : Int} {x_gapFrom : Int} {x_gapSize : Int} {x_elements : Int} {x_wholeSize : Int} {x_isLaid : Int} {x_takenMany : Int} {a_buffer : (Int → Int)} {a_length : (Int → Int)} {a_bytes : (Int → Int)} {a_weight : (Int → Int)} {a_live : (Int → Int)} {a_size : (Int → Int)} {a_list : (Int → Int)} {a_moved : (Int → Int)} {a_planned : (Int → Int)} {a_stream : (Int → Int)} {a_reportedEnd : (Int → Int)} {a_reportedKeyword : (Int → Int)} {a_starts : (Int → Int)} {a_keywordAt : (Int → Int)} {a_element : (Int → Int)} {a_long1 : (Int → Int)} {a_head : (Int → Int)} {a_tail : (Int → Int)} {a_next : (Int → Int)} {a_skip : (Int → Int)} {a_last : (Int → Int)} {a_whole : (Int → Int)} {a_edges : (Int → Int)} {a_covers : (Int → Int)} {a_weighs : (Int → Int)} {a_numbers : (Int → Int)} {a_takes : (Int → Int)} {a_takenAt : (Int → Int)} {pz1 : Int} {r : Int} {y_x_thrown : Int} {y_a_planned : (Int → Int)} {sz : Nat} (hs : s_X8_plannedWork x_thrown a_size a_planned pz1 = some (r, y_x_thrown, y_a_planned)) : Met l yX8_plannedWork wsX8_plannedWork rm_X8_plannedWork (PW D vwCl [(cI, .int), (cZ, .boolean), (cJ, .long)] [.ref (ad 0), .int (iI pz1)] (wM cI cZ cJ ad x_thrown x_buffered x_given x_isFolding x_work x_rebuilt x_streamed x_reports x_gapFrom x_gapSize x_elements x_wholeSize x_isLaid x_takenMany a_buffer a_length a_bytes a_weight a_live a_size a_list a_moved a_planned a_stream a_reportedEnd a_reportedKeyword a_starts a_keywordAt a_element a_long1 a_head a_tail a_next a_skip a_last a_whole a_edges a_covers a_weighs a_numbers a_takes a_takenAt) sz) (QW D vwCl (some (.int (iI r))) (wM cI cZ cJ ad y_x_thrown x_buffered x_given x_isFolding x_work x_rebuilt x_streamed x_reports x_gapFrom x_gapSize x_elements x_wholeSize x_isLaid x_takenMany a_buffer a_length a_bytes a_weight a_live a_size a_list a_moved y_a_planned a_stream a_reportedEnd a_reportedKeyword a_starts a_keywordAt a_element a_long1 a_head a_tail a_next a_skip a_last a_whole a_edges a_covers a_weighs a_numbers a_takes a_takenAt) (va_A (wM cI cZ cJ ad x_thrown x_buffered x_given x_isFolding x_work x_rebuilt x_streamed x_reports x_gapFrom x_gapSize x_elements x_wholeSize x_isLaid x_takenMany a_buffer a_length a_bytes a_weight a_live a_size a_list a_moved a_planned a_stream a_reportedEnd a_reportedKeyword a_starts a_keywordAt a_element a_long1 a_head a_tail a_next a_skip a_last a_whole a_edges a_covers a_weighs a_numbers a_takes a_takenAt) sz)) 0 0 (va_A (wM cI cZ cJ ad x_thrown x_buffered x_given x_isFolding x_work x_rebuilt x_streamed x_reports x_gapFrom x_gapSize x_elements x_wholeSize x_isLaid x_takenMany a_buffer a_length a_bytes a_weight a_live a_size a_list a_moved a_planned a_stream a_reportedEnd a_reportedKeyword a_starts a_keywordAt a_element a_long1 a_head a_tail a_next a_skip a_last a_whole a_edges a_covers a_weighs a_numbers a_takes a_takenAt) sz) := by
  refine Met.ofW (cc := cX8_plannedWork) (maxL := 6) (ret := (some .int)) (by decide) rfl ?_
  intro p e s m args below meth c s₁ B hml hv
  obtain ⟨hav, hsz, hP, hK, hD0⟩ := hv
  have hx := B.exec
  have hb := B.bytes
  have hr := B.returns
  have hts := atoms_spec (ws := wsX8_plannedWork) B.pre
  have hown : s.vm.findClass RX8 = some m.cls := findClass_of_methodNamed B.named
  have hlk := B.notSynchronized
  have hf1 : (Cond.fieldLink RX8 1 "KeywordMatcherModel" "thrown" "I").before args s = true := hts _ (List.mem_of_getElem? (i := 1) rfl)
  have hiX8 : ∀ w ∈ wsX80, w ∈ wsX8_plannedWork := fun w h => List.mem_cons_of_mem _ (List.mem_append_right _ h)
  have hc198 : (Cond.constantLong RX8 198 (40)).before args s = true := hts _ (List.mem_of_getElem? (i := 2) rfl)
  have hf39 : (Cond.fieldLink RX8 39 "KeywordMatcherModel" "planned" "[I").before args s = true := hts _ (List.mem_of_getElem? (i := 3) rfl)
  have hf30 : (Cond.fieldLink RX8 30 "KeywordMatcherModel" "size" "[I").before args s = true := hts _ (List.mem_of_getElem? (i := 4) rfl)
  subst hsz
  have hD := hD0.self (sz := s.heap.size)
  generalize hAe : va_A (wM cI cZ cJ ad x_thrown x_buffered x_given x_isFolding x_work x_rebuilt x_streamed x_reports x_gapFrom x_gapSize x_elements x_wholeSize x_isLaid x_takenMany a_buffer a_length a_bytes a_weight a_live a_size a_list a_moved a_planned a_stream a_reportedEnd a_reportedKeyword a_starts a_keywordAt a_element a_long1 a_head a_tail a_next a_skip a_last a_whole a_edges a_covers a_weighs a_numbers a_takes a_takenAt) s.heap.size = Az at hD ⊢
  have hA : ∀ q : Nat, s.heap.size ≤ q → Az q := fun q h => by rw [← hAe]; exact Or.inr h
  clear hAe
  have hSz : va_S Az s.heap s.heap [] := va_S.rf
  obtain ⟨wz, hw1⟩ : ∃ z : va_W, z = (wM cI cZ cJ ad y_x_thrown x_buffered x_given x_isFolding x_work x_rebuilt x_streamed x_reports x_gapFrom x_gapSize x_elements x_wholeSize x_isLaid x_takenMany a_buffer a_length a_bytes a_weight a_live a_size a_list a_moved y_a_planned a_stream a_reportedEnd a_reportedKeyword a_starts a_keywordAt a_element a_long1 a_head a_tail a_next a_skip a_last a_whole a_edges a_covers a_weighs a_numbers a_takes a_takenAt) := ⟨_, rfl⟩
  rw [← hw1]
  have hl := lv_entry ([.ref (ad 0), .int (iI pz1)]) (n := 6) (Nat.le_of_ble_eq_true rfl)
  rw [show entryFrame m args 6 = entryFrame m ([.ref (ad 0), .int (iI pz1)] : List Value).toArray 6 from by rw [hav], lg_entry_eq]
  generalize (lg_sl ([.ref (ad 0), .int (iI pz1)]) ++ List.replicate (6 - (lg_sl ([.ref (ad 0), .int (iI pz1)])).length) Slot.unset).toArray = ls at hl ⊢
  have hl : lv_has ls 6 [(0, .ref (ad 0)), (1, .int (iI pz1))] := hl
  unfold s_X8_plannedWork at hs
  have Lz22 : ∀ (fu : Nat) (x_thrown : Int) (a_planned : (Int → Int)) (l1 : Int) (l2 : Int) (y0 : (Int → Int)), s_X8_plannedWork_22 fu a_size a_planned l1 l2 = some y0 → ∀ (Hz : Heap) (lz : List Loc), va_P D vwCl (wM cI cZ cJ ad x_thrown x_buffered x_given x_isFolding x_work x_rebuilt x_streamed x_reports x_gapFrom x_gapSize x_elements x_wholeSize x_isLaid x_takenMany a_buffer a_length a_bytes a_weight a_live a_size a_list a_moved a_planned a_stream a_reportedEnd a_reportedKeyword a_starts a_keywordAt a_element a_long1 a_head a_tail a_next a_skip a_last a_whole a_edges a_covers a_weighs a_numbers a_takes a_takenAt) Hz → va_D Az (wM cI cZ cJ ad x_thrown x_buffered x_given x_isFolding x_work x_rebuilt x_streamed x_reports x_gapFrom x_gapSize x_elements x_wholeSize x_isLaid x_takenMany a_buffer a_length a_bytes a_weight a_live a_size a_list a_moved a_planned a_stream a_reportedEnd a_reportedKeyword a_starts a_keywordAt a_element a_long1 a_head a_tail a_next a_skip a_last a_whole a_edges a_covers a_weighs a_numbers a_takes a_takenAt) → va_S Az s.heap Hz lz → ∀ ls : Array Slot, lv_has ls 6 [(0, .ref (ad 0)), (1, .int (iI l1)), (2, .int (iI l2))] → (∀ (Hz : Heap) (lz : List Loc), va_P D vwCl (wM cI cZ cJ ad x_thrown x_buffered x_given x_isFolding x_work x_rebuilt x_streamed x_reports x_gapFrom x_gapSize x_elements x_wholeSize x_isLaid x_takenMany a_buffer a_length a_bytes a_weight a_live a_size a_list a_moved y0 a_stream a_reportedEnd a_reportedKeyword a_starts a_keywordAt a_element a_long1 a_head a_tail a_next a_skip a_last a_whole a_edges a_covers a_weighs a_numbers a_takes a_takenAt) Hz → va_D Az (wM cI cZ cJ ad x_thrown x_buffered x_given x_isFolding x_work x_rebuilt x_streamed x_reports x_gapFrom x_gapSize x_elements x_wholeSize x_isLaid x_takenMany a_buffer a_length a_bytes a_weight a_live a_size a_list a_moved y0 a_stream a_reportedEnd a_reportedKeyword a_starts a_keywordAt a_element a_long1 a_head a_tail a_next a_skip a_last a_whole a_edges a_covers a_weighs a_numbers a_takes a_takenAt) → va_S Az s.heap Hz lz → ∀ ls : Array Slot, lv_has ls 6 [(0, .ref (ad 0)), (1, .int (iI l1))] → W p l e (headSpec wsX8_plannedWork rm_X8_plannedWork).room s m args below meth c Hz lz 0 0 (MQ below (QW D vwCl (some (.int (iI r))) wz Az) args s 0 0 Az) (F0 m 46 ls [])) → W p l e (headSpec wsX8_plannedWork rm_X8_plannedWork).room s m args below meth c Hz lz 0 0 (MQ below (QW D vwCl (some (.int (iI r))) wz Az) args s 0 0 Az) (F0 m 22 ls []) := by
    intro fu
    induction fu with
    | zero => intro x_thrown a_planned l1 l2 y0 hs; cases hs
    | succ fu ih =>
      intro x_thrown a_planned l1 l2 y0 hs Hz lz hP hD hSz ls hl kx
      rw [s_X8_plannedWork_22_s] at hs
      refine lv_iload_n hx hb dX8_plannedWork_22 rfl (lv_at hl 2 rfl) ?_
      refine k_bipush (n := 7) hx hb (by decide) dX8_plannedWork_23 ?_
      refine k_icmp_ge (tgt := 46) hx hb hs dX8_plannedWork_25 (by decide) (fun hs => ?_) (fun hs => ?_)
      · refine lv_aload_n hx hb dX8_plannedWork_28 rfl (lv_at hl 0 rfl) ?_
        refine va_get (ci := 8) (v := .ref (ad 9)) (C := RX8) (T := TX8) (N := 42) hx hb hts hiX8 hown hK hP 0 rfl rfl 14 (by decide) hf39 (fun _ h9 => h9) rfl dX8_plannedWork_29 ?_
        refine lv_iload_n hx hb dX8_plannedWork_32 rfl (lv_at hl 2 rfl) ?_
        refine lv_aload_n hx hb dX8_plannedWork_33 rfl (lv_at hl 0 rfl) ?_
        refine va_get (ci := 8) (v := .ref (ad 6)) (C := RX8) (T := TX8) (N := 42) hx hb hts hiX8 hown hK hP 0 rfl rfl 9 (by decide) hf30 (fun _ h9 => h9) rfl dX8_plannedWork_34 ?_
        refine lv_iload_n hx hb dX8_plannedWork_37 rfl (lv_at hl 2 rfl) ?_
        refine k_iald hx hb hK hP 6 0 rfl rfl (Nat.le_of_ble_eq_true rfl) hs dX8_plannedWork_38 (fun vz2 hs => ?_)
        refine k_iast hx hb hK hP hD hSz 9 0 rfl rfl (Nat.le_of_ble_eq_true rfl) hs dX8_plannedWork_39 (fun Hz lz hP hD hSz hs => ?_)
        have hP : va_P D vwCl (wM cI cZ cJ ad x_thrown x_buffered x_given x_isFolding x_work x_rebuilt x_streamed x_reports x_gapFrom x_gapSize x_elements x_wholeSize x_isLaid x_takenMany a_buffer a_length a_bytes a_weight a_live a_size a_list a_moved (upA a_planned l2 vz2) a_stream a_reportedEnd a_reportedKeyword a_starts a_keywordAt a_element a_long1 a_head a_tail a_next a_skip a_last a_whole a_edges a_covers a_weighs a_numbers a_takes a_takenAt) Hz := hP
        have hD : va_D Az (wM cI cZ cJ ad x_thrown x_buffered x_given x_isFolding x_work x_rebuilt x_streamed x_reports x_gapFrom x_gapSize x_elements x_wholeSize x_isLaid x_takenMany a_buffer a_length a_bytes a_weight a_live a_size a_list a_moved (upA a_planned l2 vz2) a_stream a_reportedEnd a_reportedKeyword a_starts a_keywordAt a_element a_long1 a_head a_tail a_next a_skip a_last a_whole a_edges a_covers a_weighs a_numbers a_takes a_takenAt) := hD
        refine k_iinc (x := l2) (k := 2) (lv' := [(2, .int (iI (l2 + 1))), (0, .ref (ad 0)), (1, .int (iI l1))]) hx hb dX8_plannedWork_40 hl rfl (by decide) rfl (fun ls hl => ?_)
        refine lv_goto (tgt := 22) hx hb dX8_plannedWork_43 (by decide) ?_
        exact ih x_thrown (upA a_planned l2 vz2) l1 (l2 + 1) y0 hs Hz lz hP hD hSz ls (lv_sub hl [1, 2, 0] rfl) kx
      · cases hs
        exact kx Hz lz hP hD hSz ls (lv_sub hl [0, 1] rfl)
  have Lz61 : ∀ (fu : Nat) (x_thrown : Int) (a_planned : (Int → Int)) (l1 : Int) (l2 : Int) (l3 : Int) (l4 : Int) (l5 : Int) (y0 : (Int → Int)) (y1 : Int) (y2 : Int), s_X8_plannedWork_61 fu a_planned l1 l2 l3 l4 l5 = some (y0, y1, y2) → ∀ (Hz : Heap) (lz : List Loc), va_P D vwCl (wM cI cZ cJ ad x_thrown x_buffered x_given x_isFolding x_work x_rebuilt x_streamed x_reports x_gapFrom x_gapSize x_elements x_wholeSize x_isLaid x_takenMany a_buffer a_length a_bytes a_weight a_live a_size a_list a_moved a_planned a_stream a_reportedEnd a_reportedKeyword a_starts a_keywordAt a_element a_long1 a_head a_tail a_next a_skip a_last a_whole a_edges a_covers a_weighs a_numbers a_takes a_takenAt) Hz → va_D Az (wM cI cZ cJ ad x_thrown x_buffered x_given x_isFolding x_work x_rebuilt x_streamed x_reports x_gapFrom x_gapSize x_elements x_wholeSize x_isLaid x_takenMany a_buffer a_length a_bytes a_weight a_live a_size a_list a_moved a_planned a_stream a_reportedEnd a_reportedKeyword a_starts a_keywordAt a_element a_long1 a_head a_tail a_next a_skip a_last a_whole a_edges a_covers a_weighs a_numbers a_takes a_takenAt) → va_S Az s.heap Hz lz → ∀ ls : Array Slot, lv_has ls 6 [(0, .ref (ad 0)), (1, .int (iI l1)), (2, .int (iI l2)), (3, .int (iI l3)), (4, .int (iI l4)), (5, .int (iI l5))] → (∀ (Hz : Heap) (lz : List Loc), va_P D vwCl (wM cI cZ cJ ad x_thrown x_buffered x_given x_isFolding x_work x_rebuilt x_streamed x_reports x_gapFrom x_gapSize x_elements x_wholeSize x_isLaid x_takenMany a_buffer a_length a_bytes a_weight a_live a_size a_list a_moved y0 a_stream a_reportedEnd a_reportedKeyword a_starts a_keywordAt a_element a_long1 a_head a_tail a_next a_skip a_last a_whole a_edges a_covers a_weighs a_numbers a_takes a_takenAt) Hz → va_D Az (wM cI cZ cJ ad x_thrown x_buffered x_given x_isFolding x_work x_rebuilt x_streamed x_reports x_gapFrom x_gapSize x_elements x_wholeSize x_isLaid x_takenMany a_buffer a_length a_bytes a_weight a_live a_size a_list a_moved y0 a_stream a_reportedEnd a_reportedKeyword a_starts a_keywordAt a_element a_long1 a_head a_tail a_next a_skip a_last a_whole a_edges a_covers a_weighs a_numbers a_takes a_takenAt) → va_S Az s.heap Hz lz → ∀ ls : Array Slot, lv_has ls 6 [(0, .ref (ad 0)), (1, .int (iI l1)), (2, .int (iI l2)), (3, .int (iI l3)), (4, .int (iI y1)), (5, .int (iI y2))] → W p l e (headSpec wsX8_plannedWork rm_X8_plannedWork).room s m args below meth c Hz lz 0 0 (MQ below (QW D vwCl (some (.int (iI r))) wz Az) args s 0 0 Az) (F0 m 97 ls [])) → W p l e (headSpec wsX8_plannedWork rm_X8_plannedWork).room s m args below meth c Hz lz 0 0 (MQ below (QW D vwCl (some (.int (iI r))) wz Az) args s 0 0 Az) (F0 m 61 ls []) := by
    intro fu
    induction fu with
    | zero => intro x_thrown a_planned l1 l2 l3 l4 l5 y0 y1 y2 hs; cases hs
    | succ fu ih =>
      intro x_thrown a_planned l1 l2 l3 l4 l5 y0 y1 y2 hs Hz lz hP hD hSz ls hl kx
      rw [s_X8_plannedWork_61_s] at hs
      refine lv_aload_n hx hb dX8_plannedWork_61 rfl (lv_at hl 0 rfl) ?_
      refine va_get (ci := 8) (v := .ref (ad 9)) (C := RX8) (T := TX8) (N := 42) hx hb hts hiX8 hown hK hP 0 rfl rfl 14 (by decide) hf39 (fun _ h9 => h9) rfl dX8_plannedWork_62 ?_
      refine lv_iload hx hb dX8_plannedWork_65 (lv_at hl 5 rfl) ?_
      refine k_iald hx hb hK hP 9 0 rfl rfl (Nat.le_of_ble_eq_true rfl) hs dX8_plannedWork_67 (fun vz4 hs => ?_)
      refine k_if_le (tgt := 97) hx hb hs dX8_plannedWork_68 (by decide) (fun hs => ?_) (fun hs => ?_)
      · refine lv_iload hx hb dX8_plannedWork_71 (lv_at hl 4 rfl) ?_
        refine lv_aload_n hx hb dX8_plannedWork_73 rfl (lv_at hl 0 rfl) ?_
        refine va_get (ci := 8) (v := .ref (ad 9)) (C := RX8) (T := TX8) (N := 42) hx hb hts hiX8 hown hK hP 0 rfl rfl 14 (by decide) hf39 (fun _ h9 => h9) rfl dX8_plannedWork_74 ?_
        refine lv_iload hx hb dX8_plannedWork_77 (lv_at hl 5 rfl) ?_
        refine k_iald hx hb hK hP 9 0 rfl rfl (Nat.le_of_ble_eq_true rfl) hs dX8_plannedWork_79 (fun vz5 hs => ?_)
        refine k_iadd hx hb dX8_plannedWork_80 ?_
        refine lv_istore (lv' := [(4, .int (iI (l4 + vz5))), (0, .ref (ad 0)), (1, .int (iI l1)), (2, .int (iI l2)), (3, .int (iI l3)), (5, .int (iI l5))]) hx hb dX8_plannedWork_81 hl (by decide) rfl (fun ls hl => ?_)
        refine lv_aload_n hx hb dX8_plannedWork_83 rfl (lv_at hl 1 rfl) ?_
        refine va_get (ci := 8) (v := .ref (ad 9)) (C := RX8) (T := TX8) (N := 42) hx hb hts hiX8 hown hK hP 0 rfl rfl 14 (by decide) hf39 (fun _ h9 => h9) rfl dX8_plannedWork_84 ?_
        refine lv_iload hx hb dX8_plannedWork_87 (lv_at hl 5 rfl) ?_
        refine k_iconst (n := 0) hx hb dX8_plannedWork_89 ?_
        refine k_iast hx hb hK hP hD hSz 9 0 rfl rfl (Nat.le_of_ble_eq_true rfl) hs dX8_plannedWork_90 (fun Hz lz hP hD hSz hs => ?_)
        have hP : va_P D vwCl (wM cI cZ cJ ad x_thrown x_buffered x_given x_isFolding x_work x_rebuilt x_streamed x_reports x_gapFrom x_gapSize x_elements x_wholeSize x_isLaid x_takenMany a_buffer a_length a_bytes a_weight a_live a_size a_list a_moved (upA a_planned l5 0) a_stream a_reportedEnd a_reportedKeyword a_starts a_keywordAt a_element a_long1 a_head a_tail a_next a_skip a_last a_whole a_edges a_covers a_weighs a_numbers a_takes a_takenAt) Hz := hP
        have hD : va_D Az (wM cI cZ cJ ad x_thrown x_buffered x_given x_isFolding x_work x_rebuilt x_streamed x_reports x_gapFrom x_gapSize x_elements x_wholeSize x_isLaid x_takenMany a_buffer a_length a_bytes a_weight a_live a_size a_list a_moved (upA a_planned l5 0) a_stream a_reportedEnd a_reportedKeyword a_starts a_keywordAt a_element a_long1 a_head a_tail a_next a_skip a_last a_whole a_edges a_covers a_weighs a_numbers a_takes a_takenAt) := hD
        refine k_iinc (x := l5) (k := 5) (lv' := [(5, .int (iI (l5 + 1))), (4, .int (iI (l4 + vz5))), (0, .ref (ad 0)), (1, .int (iI l1)), (2, .int (iI l2)), (3, .int (iI l3))]) hx hb dX8_plannedWork_91 hl rfl (by decide) rfl (fun ls hl => ?_)
        refine lv_goto (tgt := 61) hx hb dX8_plannedWork_94 (by decide) ?_
        exact ih x_thrown (upA a_planned l5 0) l1 l2 l3 (l4 + vz5) (l5 + 1) y0 y1 y2 hs Hz lz hP hD hSz ls (lv_sub hl [2, 3, 4, 5, 1, 0] rfl) kx
      · cases hs
        exact kx Hz lz hP hD hSz ls (lv_sub hl [0, 1, 2, 3, 4, 5] rfl)
  have Lz50 : ∀ (fu : Nat) (x_thrown : Int) (a_planned : (Int → Int)) (l1 : Int) (l2 : Int) (l3 : Int) (y0 : (Int → Int)) (y1 : Int), s_X8_plannedWork_50 fu a_planned l1 l2 l3 = some (y0, y1) → ∀ (Hz : Heap) (lz : List Loc), va_P D vwCl (wM cI cZ cJ ad x_thrown x_buffered x_given x_isFolding x_work x_rebuilt x_streamed x_reports x_gapFrom x_gapSize x_elements x_wholeSize x_isLaid x_takenMany a_buffer a_length a_bytes a_weight a_live a_size a_list a_moved a_planned a_stream a_reportedEnd a_reportedKeyword a_starts a_keywordAt a_element a_long1 a_head a_tail a_next a_skip a_last a_whole a_edges a_covers a_weighs a_numbers a_takes a_takenAt) Hz → va_D Az (wM cI cZ cJ ad x_thrown x_buffered x_given x_isFolding x_work x_rebuilt x_streamed x_reports x_gapFrom x_gapSize x_elements x_wholeSize x_isLaid x_takenMany a_buffer a_length a_bytes a_weight a_live a_size a_list a_moved a_planned a_stream a_reportedEnd a_reportedKeyword a_starts a_keywordAt a_element a_long1 a_head a_tail a_next a_skip a_last a_whole a_edges a_covers a_weighs a_numbers a_takes a_takenAt) → va_S Az s.heap Hz lz → ∀ ls : Array Slot, lv_has ls 6 [(0, .ref (ad 0)), (1, .int (iI l1)), (2, .int (iI l2)), (3, .int (iI l3))] → (∀ (Hz : Heap) (lz : List Loc), va_P D vwCl (wM cI cZ cJ ad x_thrown x_buffered x_given x_isFolding x_work x_rebuilt x_streamed x_reports x_gapFrom x_gapSize x_elements x_wholeSize x_isLaid x_takenMany a_buffer a_length a_bytes a_weight a_live a_size a_list a_moved y0 a_stream a_reportedEnd a_reportedKeyword a_starts a_keywordAt a_element a_long1 a_head a_tail a_next a_skip a_last a_whole a_edges a_covers a_weighs a_numbers a_takes a_takenAt) Hz → va_D Az (wM cI cZ cJ ad x_thrown x_buffered x_given x_isFolding x_work x_rebuilt x_streamed x_reports x_gapFrom x_gapSize x_elements x_wholeSize x_isLaid x_takenMany a_buffer a_length a_bytes a_weight a_live a_size a_list a_moved y0 a_stream a_reportedEnd a_reportedKeyword a_starts a_keywordAt a_element a_long1 a_head a_tail a_next a_skip a_last a_whole a_edges a_covers a_weighs a_numbers a_takes a_takenAt) → va_S Az s.heap Hz lz → ∀ ls : Array Slot, lv_has ls 6 [(2, .int (iI y1))] → W p l e (headSpec wsX8_plannedWork rm_X8_plannedWork).room s m args below meth c Hz lz 0 0 (MQ below (QW D vwCl (some (.int (iI r))) wz Az) args s 0 0 Az) (F0 m 117 ls [])) → W p l e (headSpec wsX8_plannedWork rm_X8_plannedWork).room s m args below meth c Hz lz 0 0 (MQ below (QW D vwCl (some (.int (iI r))) wz Az) args s 0 0 Az) (F0 m 50 ls []) := by
    intro fu
    induction fu with
    | zero => intro x_thrown a_planned l1 l2 l3 y0 y1 hs; cases hs
    | succ fu ih =>
      intro x_thrown a_planned l1 l2 l3 y0 y1 hs Hz lz hP hD hSz ls hl kx
      rw [s_X8_plannedWork_50_s] at hs
      refine lv_iload_n hx hb dX8_plannedWork_50 rfl (lv_at hl 3 rfl) ?_
      refine lv_iload_n hx hb dX8_plannedWork_51 rfl (lv_at hl 1 rfl) ?_
      refine k_icmp_ge (tgt := 117) hx hb hs dX8_plannedWork_52 (by decide) (fun hs => ?_) (fun hs => ?_)
      · refine k_iconst (n := 1) hx hb dX8_plannedWork_55 ?_
        refine lv_istore (lv' := [(4, .int (iI 1)), (0, .ref (ad 0)), (1, .int (iI l1)), (2, .int (iI l2)), (3, .int (iI l3))]) hx hb dX8_plannedWork_56 hl (by decide) rfl (fun ls hl => ?_)
        refine k_iconst (n := 0) hx hb dX8_plannedWork_58 ?_
        refine lv_istore (lv' := [(5, .int (iI 0)), (4, .int (iI 1)), (0, .ref (ad 0)), (1, .int (iI l1)), (2, .int (iI l2)), (3, .int (iI l3))]) hx hb dX8_plannedWork_59 hl (by decide) rfl (fun ls hl => ?_)
        obtain ⟨ez6, ez7, ez8, hq, hs⟩ := bd3_some hs
        refine Lz61 FU x_thrown a_planned l1 l2 l3 1 0 ez6 ez7 ez8 hq Hz lz hP hD hSz ls (lv_sub hl [2, 3, 4, 5, 1, 0] rfl) ?_
        intro Hz lz hP hD hSz ls hl
        refine lv_aload_n hx hb dX8_plannedWork_97 rfl (lv_at hl 0 rfl) ?_
        refine va_get (ci := 8) (v := .ref (ad 9)) (C := RX8) (T := TX8) (N := 42) hx hb hts hiX8 hown hK hP 0 rfl rfl 14 (by decide) hf39 (fun _ h9 => h9) rfl dX8_plannedWork_98 ?_
        refine lv_iload hx hb dX8_plannedWork_101 (lv_at hl 5 rfl) ?_
        refine lv_iload hx hb dX8_plannedWork_103 (lv_at hl 4 rfl) ?_
        refine k_iast hx hb hK hP hD hSz 9 0 rfl rfl (Nat.le_of_ble_eq_true rfl) hs dX8_plannedWork_105 (fun Hz lz hP hD hSz hs => ?_)
        have hP : va_P D vwCl (wM cI cZ cJ ad x_thrown x_buffered x_given x_isFolding x_work x_rebuilt x_streamed x_reports x_gapFrom x_gapSize x_elements x_wholeSize x_isLaid x_takenMany a_buffer a_length a_bytes a_weight a_live a_size a_list a_moved (upA ez6 ez8 ez7) a_stream a_reportedEnd a_reportedKeyword a_starts a_keywordAt a_element a_long1 a_head a_tail a_next a_skip a_last a_whole a_edges a_covers a_weighs a_numbers a_takes a_takenAt) Hz := hP
        have hD : va_D Az (wM cI cZ cJ ad x_thrown x_buffered x_given x_isFolding x_work x_rebuilt x_streamed x_reports x_gapFrom x_gapSize x_elements x_wholeSize x_isLaid x_takenMany a_buffer a_length a_bytes a_weight a_live a_size a_list a_moved (upA ez6 ez8 ez7) a_stream a_reportedEnd a_reportedKeyword a_starts a_keywordAt a_element a_long1 a_head a_tail a_next a_skip a_last a_whole a_edges a_covers a_weighs a_numbers a_takes a_takenAt) := hD
        refine lv_iload_n hx hb dX8_plannedWork_106 rfl (lv_at hl 2 rfl) ?_
        refine lv_iload hx hb dX8_plannedWork_107 (lv_at hl 4 rfl) ?_
        refine k_iadd hx hb dX8_plannedWork_109 ?_
        refine lv_istore_n (lv' := [(2, .int (iI (l2 + ez7))), (0, .ref (ad 0)), (1, .int (iI l1)), (3, .int (iI l3)), (4, .int (iI ez7)), (5, .int (iI ez8))]) hx hb dX8_plannedWork_110 rfl hl (by decide) rfl (fun ls hl => ?_)
        refine k_iinc (x := l3) (k := 3) (lv' := [(3, .int (iI (l3 + 1))), (2, .int (iI (l2 + ez7))), (0, .ref (ad 0)), (1, .int (iI l1)), (4, .int (iI ez7)), (5, .int (iI ez8))]) hx hb dX8_plannedWork_111 hl rfl (by decide) rfl (fun ls hl => ?_)
        refine lv_goto (tgt := 50) hx hb dX8_plannedWork_114 (by decide) ?_
        exact ih x_thrown (upA ez6 ez8 ez7) l1 (l2 + ez7) (l3 + 1) y0 y1 hs Hz lz hP hD hSz ls (lv_sub hl [2, 3, 1, 0] rfl) kx
      · cases hs
        exact kx Hz lz hP hD hSz ls (lv_sub hl [2] rfl)
  refine (?_ : ∀ (Hz : Heap) (lz : List Loc), va_P D vwCl (wM cI cZ cJ ad x_thrown x_buffered x_given x_isFolding x_work x_rebuilt x_streamed x_reports x_gapFrom x_gapSize x_elements x_wholeSize x_isLaid x_takenMany a_buffer a_length a_bytes a_weight a_live a_size a_list a_moved a_planned a_stream a_reportedEnd a_reportedKeyword a_starts a_keywordAt a_element a_long1 a_head a_tail a_next a_skip a_last a_whole a_edges a_covers a_weighs a_numbers a_takes a_takenAt) Hz → va_D Az (wM cI cZ cJ ad x_thrown x_buffered x_given x_isFolding x_work x_rebuilt x_streamed x_reports x_gapFrom x_gapSize x_elements x_wholeSize x_isLaid x_takenMany a_buffer a_length a_bytes a_weight a_live a_size a_list a_moved a_planned a_stream a_reportedEnd a_reportedKeyword a_starts a_keywordAt a_element a_long1 a_head a_tail a_next a_skip a_last a_whole a_edges a_covers a_weighs a_numbers a_takes a_takenAt) → va_S Az s.heap Hz lz → W p l e (headSpec wsX8_plannedWork rm_X8_plannedWork).room s m args below meth c Hz lz 0 0 (MQ below (QW D vwCl (some (.int (iI r))) wz Az) args s 0 0 Az) (F0 m 0 ls [])) s.heap [] hP hD hSz
  intro Hz lz hP hD hSz
  refine lv_aload_n hx hb dX8_plannedWork_0 rfl (lv_at hl 0 rfl) ?_
  refine k_iconst (n := 0) hx hb dX8_plannedWork_1 ?_
  refine va_put (ci := 8) (v := .int (iI 0)) (ty := .int) (C := RX8) (T := TX8) (N := 42) hx hb hts hiX8 tyX8 tyX8_ok nmX8 hown hK hP hD hSz 0 rfl rfl 0 (by decide) hf1 (fun _ h9 => h9) rfl (by decide +kernel) rfl rfl (Nat.le_of_ble_eq_true rfl) dX8_plannedWork_2 (fun Hz lz hP hD hSz => ?_)
  have hP : va_P D vwCl (wM cI cZ cJ ad 0 x_buffered x_given x_isFolding x_work x_rebuilt x_streamed x_reports x_gapFrom x_gapSize x_elements x_wholeSize x_isLaid x_takenMany a_buffer a_length a_bytes a_weight a_live a_size a_list a_moved a_planned a_stream a_reportedEnd a_reportedKeyword a_starts a_keywordAt a_element a_long1 a_head a_tail a_next a_skip a_last a_whole a_edges a_covers a_weighs a_numbers a_takes a_takenAt) Hz := hP
  have hD : va_D Az (wM cI cZ cJ ad 0 x_buffered x_given x_isFolding x_work x_rebuilt x_streamed x_reports x_gapFrom x_gapSize x_elements x_wholeSize x_isLaid x_takenMany a_buffer a_length a_bytes a_weight a_live a_size a_list a_moved a_planned a_stream a_reportedEnd a_reportedKeyword a_starts a_keywordAt a_element a_long1 a_head a_tail a_next a_skip a_last a_whole a_edges a_covers a_weighs a_numbers a_takes a_takenAt) := hD
  refine lv_iload_n hx hb dX8_plannedWork_5 rfl (lv_at hl 1 rfl) ?_
  refine k_i2l hx hb hs dX8_plannedWork_6 (fun hs => ?_)
  refine k_lconst (v := 0) hx hb (by decide) dX8_plannedWork_7 ?_
  refine k_ldc2 (n := 40) hx hb (by decide) hown hc198 dX8_plannedWork_8 ?_
  obtain ⟨vz1, hcz, hs⟩ := bd1_some hs
  refine k_rS (As := [.long (iL pz1), .long (iL 0), .long (iL 40)]) (rest := []) (st1 := [.int (iI vz1)]) ⟨hx, hb, hml, hown, hts⟩ hK (va_P_nil (D := D) (cl := vwCl)) (c_X8_isIn l D cI cZ cJ hcz) (va_cwS 3 hts gX8_plannedWork_X8_isIn rfl rfl rfl (by decide +kernel) ⟨Nat.le_of_ble_eq_true rfl, Nat.le_of_ble_eq_true rfl⟩) rfl hl.1 rfl (lv_room (Nat.le_of_ble_eq_true rfl)) dX8_plannedWork_11 ⟨Nat.zero_le _, Nat.zero_le _⟩ rfl ?_
  refine k_if_ne (tgt := 20) hx hb hs dX8_plannedWork_14 (by decide) (fun hs => ?_) (fun hs => ?_)
  · refine k_bipush (n := (-3)) hx hb (by decide) dX8_plannedWork_17 ?_
    cases hs
    exact k_iret_w hx hb hr hlk (by rw [hw1]; exact hP) hSz dX8_plannedWork_19 rfl
  · refine k_iconst (n := 0) hx hb dX8_plannedWork_20 ?_
    refine lv_istore_n (lv' := [(2, .int (iI 0)), (0, .ref (ad 0)), (1, .int (iI pz1))]) hx hb dX8_plannedWork_21 rfl hl (by decide) rfl (fun ls hl => ?_)
    obtain ⟨ez3, hq, hs⟩ := bd1_some hs
    refine Lz22 FU 0 a_planned pz1 0 ez3 hq Hz lz hP hD hSz ls (lv_sub hl [1, 2, 0] rfl) ?_
    intro Hz lz hP hD hSz ls hl
    refine k_iconst (n := 0) hx hb dX8_plannedWork_46 ?_
    refine lv_istore_n (lv' := [(2, .int (iI 0)), (0, .ref (ad 0)), (1, .int (iI pz1))]) hx hb dX8_plannedWork_47 rfl hl (by decide) rfl (fun ls hl => ?_)
    refine k_iconst (n := 0) hx hb dX8_plannedWork_48 ?_
    refine lv_istore_n (lv' := [(3, .int (iI 0)), (2, .int (iI 0)), (0, .ref (ad 0)), (1, .int (iI pz1))]) hx hb dX8_plannedWork_49 rfl hl (by decide) rfl (fun ls hl => ?_)
    obtain ⟨ez9, ez10, hq, hs⟩ := bd2_some hs
    refine Lz50 FU 0 ez3 pz1 0 0 ez9 ez10 hq Hz lz hP hD hSz ls (lv_sub hl [2, 3, 1, 0] rfl) ?_
    intro Hz lz hP hD hSz ls hl
    refine lv_iload_n hx hb dX8_plannedWork_117 rfl (lv_at hl 0 rfl) ?_
    cases hs
    exact k_iret_w hx hb hr hlk (by rw [hw1]; exact hP) hSz dX8_plannedWork_118 rfl
/-! X8_rebuildCount -/
set_option maxHeartbeats 4000000 in
set_option maxRecDepth 100000 in
theorem c_X8_rebuildCount (l : Launch) (D : va_G) (cI cZ cJ : ClassId) {ad : Nat → Nat} {x_thrown : Int} {x_buffered : Int} {x_given : Int} {x_isFolding : Int} {x_work : Int} {x_rebuilt : Int} {x_streamed : Int} {x_reports : Int} {x_gapFrom : Int} {x_gapSize : Int} {x_elements : Int} {x_wholeSize : Int} {x_isLaid : Int} {x_takenMany : Int} {a_buffer : (Int → Int)} {a_length : (Int → Int)} {a_bytes : (Int → Int)} {a_weight : (Int → Int)} {a_live : (Int → Int)} {a_size : (Int → Int)} {a_list : (Int → Int)} {a_moved : (Int → Int)} {a_planned : (Int → Int)} {a_stream : (Int → Int)} {a_reportedEnd : (Int → Int)} {a_reportedKeyword : (Int → Int)} {a_starts : (Int → Int)} {a_keywordAt : (Int → Int)} {a_element : (Int → Int)} {a_long1 : (Int → Int)} {a_head : (Int → Int)} {a_tail : (Int → Int)} {a_next : (Int → Int)} {a_skip : (Int → Int)} {a_last : (Int → Int)} {a_whole : (Int → Int)} {a_edges : (Int → Int)} {a_covers : (Int → Int)} {a_weighs : (Int → Int)} {a_numbers : (Int → Int)} {a_takes : (Int → Int)} {a_takenAt : (Int → Int)} {r : Int} {y_x_thrown : Int} {sz : Nat} (hs : s_X8_rebuildCount x_thrown x_rebuilt = some (r, y_x_thrown)) : Met l yX8_rebuildCount wsX8_rebuildCount rm_X8_rebuildCount (PW D vwCl [(cI, .int), (cZ, .boolean), (cJ, .long)] [.ref (ad 0)] (wM cI cZ cJ ad x_thrown x_buffered x_given x_isFolding x_work x_rebuilt x_streamed x_reports x_gapFrom x_gapSize x_elements x_wholeSize x_isLaid x_takenMany a_buffer a_length a_bytes a_weight a_live a_size a_list a_moved a_planned a_stream a_reportedEnd a_reportedKeyword a_starts a_keywordAt a_element a_long1 a_head a_tail a_next a_skip a_last a_whole a_edges a_covers a_weighs a_numbers a_takes a_takenAt) sz) (QW D vwCl (some (.int (iI r))) (wM cI cZ cJ ad y_x_thrown x_buffered x_given x_isFolding x_work x_rebuilt x_streamed x_reports x_gapFrom x_gapSize x_elements x_wholeSize x_isLaid x_takenMany a_buffer a_length a_bytes a_weight a_live a_size a_list a_moved a_planned a_stream a_reportedEnd a_reportedKeyword a_starts a_keywordAt a_element a_long1 a_head a_tail a_next a_skip a_last a_whole a_edges a_covers a_weighs a_numbers a_takes a_takenAt) (va_A (wM cI cZ cJ ad x_thrown x_buffered x_given x_isFolding x_work x_rebuilt x_streamed x_reports x_gapFrom x_gapSize x_elements x_wholeSize x_isLaid x_takenMany a_buffer a_length a_bytes a_weight a_live a_size a_list a_moved a_planned a_stream a_reportedEnd a_reportedKeyword a_starts a_keywordAt a_element a_long1 a_head a_tail a_next a_skip a_last a_whole a_edges a_covers a_weighs a_numbers a_takes a_takenAt) sz)) 0 0 (va_A (wM cI cZ cJ ad x_thrown x_buffered x_given x_isFolding x_work x_rebuilt x_streamed x_reports x_gapFrom x_gapSize x_elements x_wholeSize x_isLaid x_takenMany a_buffer a_length a_bytes a_weight a_live a_size a_list a_moved a_planned a_stream a_reportedEnd a_reportedKeyword a_starts a_keywordAt a_element a_long1 a_head a_tail a_next a_skip a_last a_whole a_edges a_covers a_weighs a_numbers a_takes a_takenAt) sz) := by
  refine Met.ofW (cc := cX8_rebuildCount) (maxL := 1) (ret := (some .int)) (by decide) rfl ?_
  intro p e s m args below meth c s₁ B hml hv
  obtain ⟨hav, hsz, hP, hK, hD0⟩ := hv
  have hx := B.exec
  have hb := B.bytes
  have hr := B.returns
  have hts := atoms_spec (ws := wsX8_rebuildCount) B.pre
  have hown : s.vm.findClass RX8 = some m.cls := findClass_of_methodNamed B.named
  have hlk := B.notSynchronized
  have hf1 : (Cond.fieldLink RX8 1 "KeywordMatcherModel" "thrown" "I").before args s = true := hts _ (List.mem_of_getElem? (i := 1) rfl)
  have hiX8 : ∀ w ∈ wsX80, w ∈ wsX8_rebuildCount := fun w h => List.mem_cons_of_mem _ (List.mem_append_right _ h)
  have hf176 : (Cond.fieldLink RX8 176 "KeywordMatcherModel" "rebuilt" "I").before args s = true := hts _ (List.mem_of_getElem? (i := 2) rfl)
  subst hsz
  have hD := hD0.self (sz := s.heap.size)
  generalize hAe : va_A (wM cI cZ cJ ad x_thrown x_buffered x_given x_isFolding x_work x_rebuilt x_streamed x_reports x_gapFrom x_gapSize x_elements x_wholeSize x_isLaid x_takenMany a_buffer a_length a_bytes a_weight a_live a_size a_list a_moved a_planned a_stream a_reportedEnd a_reportedKeyword a_starts a_keywordAt a_element a_long1 a_head a_tail a_next a_skip a_last a_whole a_edges a_covers a_weighs a_numbers a_takes a_takenAt) s.heap.size = Az at hD ⊢
  have hA : ∀ q : Nat, s.heap.size ≤ q → Az q := fun q h => by rw [← hAe]; exact Or.inr h
  clear hAe
  have hSz : va_S Az s.heap s.heap [] := va_S.rf
  obtain ⟨wz, hw1⟩ : ∃ z : va_W, z = (wM cI cZ cJ ad y_x_thrown x_buffered x_given x_isFolding x_work x_rebuilt x_streamed x_reports x_gapFrom x_gapSize x_elements x_wholeSize x_isLaid x_takenMany a_buffer a_length a_bytes a_weight a_live a_size a_list a_moved a_planned a_stream a_reportedEnd a_reportedKeyword a_starts a_keywordAt a_element a_long1 a_head a_tail a_next a_skip a_last a_whole a_edges a_covers a_weighs a_numbers a_takes a_takenAt) := ⟨_, rfl⟩
  rw [← hw1]
  have hl := lv_entry ([.ref (ad 0)]) (n := 1) (Nat.le_of_ble_eq_true rfl)
  rw [show entryFrame m args 1 = entryFrame m ([.ref (ad 0)] : List Value).toArray 1 from by rw [hav], lg_entry_eq]
  generalize (lg_sl ([.ref (ad 0)]) ++ List.replicate (1 - (lg_sl ([.ref (ad 0)])).length) Slot.unset).toArray = ls at hl ⊢
  have hl : lv_has ls 1 [(0, .ref (ad 0))] := hl
  unfold s_X8_rebuildCount at hs
  refine (?_ : ∀ (Hz : Heap) (lz : List Loc), va_P D vwCl (wM cI cZ cJ ad x_thrown x_buffered x_given x_isFolding x_work x_rebuilt x_streamed x_reports x_gapFrom x_gapSize x_elements x_wholeSize x_isLaid x_takenMany a_buffer a_length a_bytes a_weight a_live a_size a_list a_moved a_planned a_stream a_reportedEnd a_reportedKeyword a_starts a_keywordAt a_element a_long1 a_head a_tail a_next a_skip a_last a_whole a_edges a_covers a_weighs a_numbers a_takes a_takenAt) Hz → va_D Az (wM cI cZ cJ ad x_thrown x_buffered x_given x_isFolding x_work x_rebuilt x_streamed x_reports x_gapFrom x_gapSize x_elements x_wholeSize x_isLaid x_takenMany a_buffer a_length a_bytes a_weight a_live a_size a_list a_moved a_planned a_stream a_reportedEnd a_reportedKeyword a_starts a_keywordAt a_element a_long1 a_head a_tail a_next a_skip a_last a_whole a_edges a_covers a_weighs a_numbers a_takes a_takenAt) → va_S Az s.heap Hz lz → W p l e (headSpec wsX8_rebuildCount rm_X8_rebuildCount).room s m args below meth c Hz lz 0 0 (MQ below (QW D vwCl (some (.int (iI r))) wz Az) args s 0 0 Az) (F0 m 0 ls [])) s.heap [] hP hD hSz
  intro Hz lz hP hD hSz
  refine lv_aload_n hx hb dX8_rebuildCount_0 rfl (lv_at hl 0 rfl) ?_
  refine k_iconst (n := 0) hx hb dX8_rebuildCount_1 ?_
  refine va_put (ci := 8) (v := .int (iI 0)) (ty := .int) (C := RX8) (T := TX8) (N := 42) hx hb hts hiX8 tyX8 tyX8_ok nmX8 hown hK hP hD hSz 0 rfl rfl 0 (by decide) hf1 (fun _ h9 => h9) rfl (by decide +kernel) rfl rfl (Nat.le_of_ble_eq_true rfl) dX8_rebuildCount_2 (fun Hz lz hP hD hSz => ?_)
  have hP : va_P D vwCl (wM cI cZ cJ ad 0 x_buffered x_given x_isFolding x_work x_rebuilt x_streamed x_reports x_gapFrom x_gapSize x_elements x_wholeSize x_isLaid x_takenMany a_buffer a_length a_bytes a_weight a_live a_size a_list a_moved a_planned a_stream a_reportedEnd a_reportedKeyword a_starts a_keywordAt a_element a_long1 a_head a_tail a_next a_skip a_last a_whole a_edges a_covers a_weighs a_numbers a_takes a_takenAt) Hz := hP
  have hD : va_D Az (wM cI cZ cJ ad 0 x_buffered x_given x_isFolding x_work x_rebuilt x_streamed x_reports x_gapFrom x_gapSize x_elements x_wholeSize x_isLaid x_takenMany a_buffer a_length a_bytes a_weight a_live a_size a_list a_moved a_planned a_stream a_reportedEnd a_reportedKeyword a_starts a_keywordAt a_element a_long1 a_head a_tail a_next a_skip a_last a_whole a_edges a_covers a_weighs a_numbers a_takes a_takenAt) := hD
  refine lv_aload_n hx hb dX8_rebuildCount_5 rfl (lv_at hl 0 rfl) ?_
  refine va_get (ci := 8) (v := .int (iI x_rebuilt)) (C := RX8) (T := TX8) (N := 42) hx hb hts hiX8 hown hK hP 0 rfl rfl 13 (by decide) hf176 (fun _ h9 => h9) rfl dX8_rebuildCount_6 ?_
  cases hs
  exact k_iret_w hx hb hr hlk (by rw [hw1]; exact hP) hSz dX8_rebuildCount_9 rfl
