/-! X8_matchCountOf -/
set_option maxHeartbeats 4000000 in
set_option maxRecDepth 100000 in
theorem c_X8_matchCountOf (l : Launch) (D : va_G) (cI cZ cJ : ClassId) {ad : Nat → Nat} {x_thrown : Int} {x_buffered : Int} {x_given : Int} {x_isFolding : Int} {x_work : Int} {x_rebuilt : Int} {x_streamed : Int} {x_reports : Int} {x_gapFrom : Int} {x_gapSize : Int} {x_elements : Int} {x_wholeSize : Int} {x_isLaid : Int} {x_takenMany : Int} {a_buffer : (Int → Int)} {a_length : (Int → Int)} {a_bytes : (Int → Int)} {a_weight : (Int → Int)} {a_live : (Int → Int)} {a_size : (Int → Int)} {a_list : (Int → Int)} {a_moved : (Int → Int)} {a_planned : (Int → Int)} {a_stream : (Int → Int)} {a_reportedEnd : (Int → Int)} {a_reportedKeyword : (Int → Int)} {a_starts : (Int → Int)} {a_keywordAt : (Int → Int)} {a_element : (Int → Int)} {a_long1 : (Int → Int)} {a_head : (Int → Int)} {a_tail : (Int → Int)} {a_next : (Int → Int)} {a_skip : (Int → Int)} {a_last : (Int → Int)} {a_whole : (Int → Int)} {a_edges : (Int → Int)} {a_covers : (Int → Int)} {a_weighs : (Int → Int)} {a_numbers : (Int → Int)} {a_takes : (Int → Int)} {a_takenAt : (Int → Int)} {pz1 : Int} {r : Int} {y_x_thrown : Int} {sz : Nat} (hs : s_X8_matchCountOf x_thrown x_given x_isFolding x_streamed a_length a_bytes a_live a_stream pz1 = some (r, y_x_thrown)) : Met l yX8_matchCountOf wsX8_matchCountOf rm_X8_matchCountOf (PW D vwCl [(cI, .int), (cZ, .boolean), (cJ, .long)] [.ref (ad 0), .int (iI pz1)] (wM cI cZ cJ ad x_thrown x_buffered x_given x_isFolding x_work x_rebuilt x_streamed x_reports x_gapFrom x_gapSize x_elements x_wholeSize x_isLaid x_takenMany a_buffer a_length a_bytes a_weight a_live a_size a_list a_moved a_planned a_stream a_reportedEnd a_reportedKeyword a_starts a_keywordAt a_element a_long1 a_head a_tail a_next a_skip a_last a_whole a_edges a_covers a_weighs a_numbers a_takes a_takenAt) sz) (QW D vwCl (some (.int (iI r))) (wM cI cZ cJ ad y_x_thrown x_buffered x_given x_isFolding x_work x_rebuilt x_streamed x_reports x_gapFrom x_gapSize x_elements x_wholeSize x_isLaid x_takenMany a_buffer a_length a_bytes a_weight a_live a_size a_list a_moved a_planned a_stream a_reportedEnd a_reportedKeyword a_starts a_keywordAt a_element a_long1 a_head a_tail a_next a_skip a_last a_whole a_edges a_covers a_weighs a_numbers a_takes a_takenAt) (va_A (wM cI cZ cJ ad x_thrown x_buffered x_given x_isFolding x_work x_rebuilt x_streamed x_reports x_gapFrom x_gapSize x_elements x_wholeSize x_isLaid x_takenMany a_buffer a_length a_bytes a_weight a_live a_size a_list a_moved a_planned a_stream a_reportedEnd a_reportedKeyword a_starts a_keywordAt a_element a_long1 a_head a_tail a_next a_skip a_last a_whole a_edges a_covers a_weighs a_numbers a_takes a_takenAt) sz)) 0 0 (va_A (wM cI cZ cJ ad x_thrown x_buffered x_given x_isFolding x_work x_rebuilt x_streamed x_reports x_gapFrom x_gapSize x_elements x_wholeSize x_isLaid x_takenMany a_buffer a_length a_bytes a_weight a_live a_size a_list a_moved a_planned a_stream a_reportedEnd a_reportedKeyword a_starts a_keywordAt a_element a_long1 a_head a_tail a_next a_skip a_last a_whole a_edges a_covers a_weighs a_numbers a_takes a_takenAt) sz) := by
  refine Met.ofW (cc := cX8_matchCountOf) (maxL := 4) (ret := (some .int)) (by decide) rfl ?_
  intro p e s m args below meth c s₁ B hml hv
  obtain ⟨hav, hsz, hP, hK, hD0⟩ := hv
  have hx := B.exec
  have hb := B.bytes
  have hr := B.returns
  have hts := atoms_spec (ws := wsX8_matchCountOf) B.pre
  have hown : s.vm.findClass RX8 = some m.cls := findClass_of_methodNamed B.named
  have hlk := B.notSynchronized
  have hf1 : (Cond.fieldLink RX8 1 "KeywordMatcherModel" "thrown" "I").before args s = true := hts _ (List.mem_of_getElem? (i := 1) rfl)
  have hiX8 : ∀ w ∈ wsX80, w ∈ wsX8_matchCountOf := fun w h => List.mem_cons_of_mem _ (List.mem_append_right _ h)
  have hf170 : (Cond.fieldLink RX8 170 "KeywordMatcherModel" "streamed" "I").before args s = true := hts _ (List.mem_of_getElem? (i := 2) rfl)
  have hf17 : (Cond.fieldLink RX8 17 "KeywordMatcherModel" "length" "[I").before args s = true := hts _ (List.mem_of_getElem? (i := 3) rfl)
  subst hsz
  have hD := hD0.self (sz := s.heap.size)
  generalize hAe : va_A (wM cI cZ cJ ad x_thrown x_buffered x_given x_isFolding x_work x_rebuilt x_streamed x_reports x_gapFrom x_gapSize x_elements x_wholeSize x_isLaid x_takenMany a_buffer a_length a_bytes a_weight a_live a_size a_list a_moved a_planned a_stream a_reportedEnd a_reportedKeyword a_starts a_keywordAt a_element a_long1 a_head a_tail a_next a_skip a_last a_whole a_edges a_covers a_weighs a_numbers a_takes a_takenAt) s.heap.size = Az at hD ⊢
  have hA : ∀ q : Nat, s.heap.size ≤ q → Az q := fun q h => by rw [← hAe]; exact Or.inr h
  clear hAe
  have hSz : va_S Az s.heap s.heap [] := va_S.rf
  obtain ⟨wz, hw1⟩ : ∃ z : va_W, z = (wM cI cZ cJ ad y_x_thrown x_buffered x_given x_isFolding x_work x_rebuilt x_streamed x_reports x_gapFrom x_gapSize x_elements x_wholeSize x_isLaid x_takenMany a_buffer a_length a_bytes a_weight a_live a_size a_list a_moved a_planned a_stream a_reportedEnd a_reportedKeyword a_starts a_keywordAt a_element a_long1 a_head a_tail a_next a_skip a_last a_whole a_edges a_covers a_weighs a_numbers a_takes a_takenAt) := ⟨_, rfl⟩
  rw [← hw1]
  have hl := lv_entry ([.ref (ad 0), .int (iI pz1)]) (n := 4) (Nat.le_of_ble_eq_true rfl)
  rw [show entryFrame m args 4 = entryFrame m ([.ref (ad 0), .int (iI pz1)] : List Value).toArray 4 from by rw [hav], lg_entry_eq]
  generalize (lg_sl ([.ref (ad 0), .int (iI pz1)]) ++ List.replicate (4 - (lg_sl ([.ref (ad 0), .int (iI pz1)])).length) Slot.unset).toArray = ls at hl ⊢
  have hl : lv_has ls 4 [(0, .ref (ad 0)), (1, .int (iI pz1))] := hl
  unfold s_X8_matchCountOf at hs
  have Lz20 : ∀ (fu : Nat) (x_thrown : Int) (l1 : Int) (l2 : Int) (l3 : Int) (y0 : Int), s_X8_matchCountOf_20 fu x_isFolding x_streamed a_length a_bytes a_stream l1 l2 l3 = some y0 → ∀ (Hz : Heap) (lz : List Loc), va_P D vwCl (wM cI cZ cJ ad x_thrown x_buffered x_given x_isFolding x_work x_rebuilt x_streamed x_reports x_gapFrom x_gapSize x_elements x_wholeSize x_isLaid x_takenMany a_buffer a_length a_bytes a_weight a_live a_size a_list a_moved a_planned a_stream a_reportedEnd a_reportedKeyword a_starts a_keywordAt a_element a_long1 a_head a_tail a_next a_skip a_last a_whole a_edges a_covers a_weighs a_numbers a_takes a_takenAt) Hz → va_D Az (wM cI cZ cJ ad x_thrown x_buffered x_given x_isFolding x_work x_rebuilt x_streamed x_reports x_gapFrom x_gapSize x_elements x_wholeSize x_isLaid x_takenMany a_buffer a_length a_bytes a_weight a_live a_size a_list a_moved a_planned a_stream a_reportedEnd a_reportedKeyword a_starts a_keywordAt a_element a_long1 a_head a_tail a_next a_skip a_last a_whole a_edges a_covers a_weighs a_numbers a_takes a_takenAt) → va_S Az s.heap Hz lz → ∀ ls : Array Slot, lv_has ls 4 [(0, .ref (ad 0)), (1, .int (iI l1)), (2, .int (iI l2)), (3, .int (iI l3))] → (∀ (Hz : Heap) (lz : List Loc), va_P D vwCl (wM cI cZ cJ ad x_thrown x_buffered x_given x_isFolding x_work x_rebuilt x_streamed x_reports x_gapFrom x_gapSize x_elements x_wholeSize x_isLaid x_takenMany a_buffer a_length a_bytes a_weight a_live a_size a_list a_moved a_planned a_stream a_reportedEnd a_reportedKeyword a_starts a_keywordAt a_element a_long1 a_head a_tail a_next a_skip a_last a_whole a_edges a_covers a_weighs a_numbers a_takes a_takenAt) Hz → va_D Az (wM cI cZ cJ ad x_thrown x_buffered x_given x_isFolding x_work x_rebuilt x_streamed x_reports x_gapFrom x_gapSize x_elements x_wholeSize x_isLaid x_takenMany a_buffer a_length a_bytes a_weight a_live a_size a_list a_moved a_planned a_stream a_reportedEnd a_reportedKeyword a_starts a_keywordAt a_element a_long1 a_head a_tail a_next a_skip a_last a_whole a_edges a_covers a_weighs a_numbers a_takes a_takenAt) → va_S Az s.heap Hz lz → ∀ ls : Array Slot, lv_has ls 4 [(2, .int (iI y0))] → W p l e (headSpec wsX8_matchCountOf rm_X8_matchCountOf).room s m args below meth c Hz lz 0 0 (MQ below (QW D vwCl (some (.int (iI r))) wz Az) args s 0 0 Az) (F0 m 57 ls [])) → W p l e (headSpec wsX8_matchCountOf rm_X8_matchCountOf).room s m args below meth c Hz lz 0 0 (MQ below (QW D vwCl (some (.int (iI r))) wz Az) args s 0 0 Az) (F0 m 20 ls []) := by
    intro fu
    induction fu with
    | zero => intro x_thrown l1 l2 l3 y0 hs; cases hs
    | succ fu ih =>
      intro x_thrown l1 l2 l3 y0 hs Hz lz hP hD hSz ls hl kx
      rw [s_X8_matchCountOf_20_s] at hs
      refine lv_iload_n hx hb dX8_matchCountOf_20 rfl (lv_at hl 3 rfl) ?_
      refine lv_aload_n hx hb dX8_matchCountOf_21 rfl (lv_at hl 0 rfl) ?_
      refine va_get (ci := 8) (v := .int (iI x_streamed)) (C := RX8) (T := TX8) (N := 42) hx hb hts hiX8 hown hK hP 0 rfl rfl 18 (by decide) hf170 (fun _ h9 => h9) rfl dX8_matchCountOf_22 ?_
      refine k_icmp_ge (tgt := 57) hx hb hs dX8_matchCountOf_25 (by decide) (fun hs => ?_) (fun hs => ?_)
      · refine lv_iload_n hx hb dX8_matchCountOf_28 rfl (lv_at hl 2 rfl) ?_
        refine lv_aload_n hx hb dX8_matchCountOf_29 rfl (lv_at hl 0 rfl) ?_
        refine lv_iload_n hx hb dX8_matchCountOf_30 rfl (lv_at hl 1 rfl) ?_
        refine lv_iload_n hx hb dX8_matchCountOf_31 rfl (lv_at hl 3 rfl) ?_
        refine lv_aload_n hx hb dX8_matchCountOf_32 rfl (lv_at hl 0 rfl) ?_
        refine va_get (ci := 8) (v := .ref (ad 2)) (C := RX8) (T := TX8) (N := 42) hx hb hts hiX8 hown hK hP 0 rfl rfl 3 (by decide) hf17 (fun _ h9 => h9) rfl dX8_matchCountOf_33 ?_
        refine lv_iload_n hx hb dX8_matchCountOf_36 rfl (lv_at hl 1 rfl) ?_
        refine k_iald hx hb hK hP 2 0 rfl rfl (Nat.le_of_ble_eq_true rfl) hs dX8_matchCountOf_37 (fun vz2 hs => ?_)
        obtain ⟨vz3, hcz, hs⟩ := bd1_some hs
        refine k_rV (As := [.int (iI l1), .int (iI l3), .int (iI vz2)]) (rest := [.int (iI l2)]) (st1 := [.int (iI vz3), .int (iI l2)]) ⟨hx, hb, hml, hown, hts⟩ hK hP (c_X8_isInStream l D cI cZ cJ hcz) (cwV 3 hts gX8_matchCountOf_X8_isInStream rfl rfl rfl (by decide +kernel) ⟨Nat.le_of_ble_eq_true rfl, Nat.le_of_ble_eq_true rfl⟩) 0 rfl rfl rfl rfl hl.1 rfl (lv_room (Nat.le_of_ble_eq_true rfl)) dX8_matchCountOf_38 ⟨Nat.zero_le _, Nat.zero_le _⟩ rfl ?_
        refine k_if_eq (tgt := 48) hx hb hs dX8_matchCountOf_41 (by decide) (fun hs => ?_) (fun hs => ?_)
        · refine k_iconst (n := 0) hx hb dX8_matchCountOf_48 ?_
          refine k_iadd hx hb dX8_matchCountOf_49 ?_
          refine lv_istore_n (lv' := [(2, .int (iI (l2 + 0))), (0, .ref (ad 0)), (1, .int (iI l1)), (3, .int (iI l3))]) hx hb dX8_matchCountOf_50 rfl hl (by decide) rfl (fun ls hl => ?_)
          refine k_iinc (x := l3) (k := 3) (lv' := [(3, .int (iI (l3 + 1))), (2, .int (iI (l2 + 0))), (0, .ref (ad 0)), (1, .int (iI l1))]) hx hb dX8_matchCountOf_51 hl rfl (by decide) rfl (fun ls hl => ?_)
          refine lv_goto (tgt := 20) hx hb dX8_matchCountOf_54 (by decide) ?_
          exact ih x_thrown l1 (l2 + 0) (l3 + 1) y0 hs Hz lz hP hD hSz ls (lv_sub hl [2, 3, 1, 0] rfl) kx
        · refine k_iconst (n := 1) hx hb dX8_matchCountOf_44 ?_
          refine lv_goto (tgt := 49) hx hb dX8_matchCountOf_45 (by decide) ?_
          refine k_iadd hx hb dX8_matchCountOf_49 ?_
          refine lv_istore_n (lv' := [(2, .int (iI (l2 + 1))), (0, .ref (ad 0)), (1, .int (iI l1)), (3, .int (iI l3))]) hx hb dX8_matchCountOf_50 rfl hl (by decide) rfl (fun ls hl => ?_)
          refine k_iinc (x := l3) (k := 3) (lv' := [(3, .int (iI (l3 + 1))), (2, .int (iI (l2 + 1))), (0, .ref (ad 0)), (1, .int (iI l1))]) hx hb dX8_matchCountOf_51 hl rfl (by decide) rfl (fun ls hl => ?_)
          refine lv_goto (tgt := 20) hx hb dX8_matchCountOf_54 (by decide) ?_
          exact ih x_thrown l1 (l2 + 1) (l3 + 1) y0 hs Hz lz hP hD hSz ls (lv_sub hl [2, 3, 1, 0] rfl) kx
      · cases hs
        exact kx Hz lz hP hD hSz ls (lv_sub hl [2] rfl)
  refine (?_ : ∀ (Hz : Heap) (lz : List Loc), va_P D vwCl (wM cI cZ cJ ad x_thrown x_buffered x_given x_isFolding x_work x_rebuilt x_streamed x_reports x_gapFrom x_gapSize x_elements x_wholeSize x_isLaid x_takenMany a_buffer a_length a_bytes a_weight a_live a_size a_list a_moved a_planned a_stream a_reportedEnd a_reportedKeyword a_starts a_keywordAt a_element a_long1 a_head a_tail a_next a_skip a_last a_whole a_edges a_covers a_weighs a_numbers a_takes a_takenAt) Hz → va_D Az (wM cI cZ cJ ad x_thrown x_buffered x_given x_isFolding x_work x_rebuilt x_streamed x_reports x_gapFrom x_gapSize x_elements x_wholeSize x_isLaid x_takenMany a_buffer a_length a_bytes a_weight a_live a_size a_list a_moved a_planned a_stream a_reportedEnd a_reportedKeyword a_starts a_keywordAt a_element a_long1 a_head a_tail a_next a_skip a_last a_whole a_edges a_covers a_weighs a_numbers a_takes a_takenAt) → va_S Az s.heap Hz lz → W p l e (headSpec wsX8_matchCountOf rm_X8_matchCountOf).room s m args below meth c Hz lz 0 0 (MQ below (QW D vwCl (some (.int (iI r))) wz Az) args s 0 0 Az) (F0 m 0 ls [])) s.heap [] hP hD hSz
  intro Hz lz hP hD hSz
  refine lv_aload_n hx hb dX8_matchCountOf_0 rfl (lv_at hl 0 rfl) ?_
  refine k_iconst (n := 0) hx hb dX8_matchCountOf_1 ?_
  refine va_put (ci := 8) (v := .int (iI 0)) (ty := .int) (C := RX8) (T := TX8) (N := 42) hx hb hts hiX8 tyX8 tyX8_ok nmX8 hown hK hP hD hSz 0 rfl rfl 0 (by decide) hf1 (fun _ h9 => h9) rfl (by decide +kernel) rfl rfl (Nat.le_of_ble_eq_true rfl) dX8_matchCountOf_2 (fun Hz lz hP hD hSz => ?_)
  have hP : va_P D vwCl (wM cI cZ cJ ad 0 x_buffered x_given x_isFolding x_work x_rebuilt x_streamed x_reports x_gapFrom x_gapSize x_elements x_wholeSize x_isLaid x_takenMany a_buffer a_length a_bytes a_weight a_live a_size a_list a_moved a_planned a_stream a_reportedEnd a_reportedKeyword a_starts a_keywordAt a_element a_long1 a_head a_tail a_next a_skip a_last a_whole a_edges a_covers a_weighs a_numbers a_takes a_takenAt) Hz := hP
  have hD : va_D Az (wM cI cZ cJ ad 0 x_buffered x_given x_isFolding x_work x_rebuilt x_streamed x_reports x_gapFrom x_gapSize x_elements x_wholeSize x_isLaid x_takenMany a_buffer a_length a_bytes a_weight a_live a_size a_list a_moved a_planned a_stream a_reportedEnd a_reportedKeyword a_starts a_keywordAt a_element a_long1 a_head a_tail a_next a_skip a_last a_whole a_edges a_covers a_weighs a_numbers a_takes a_takenAt) := hD
  refine lv_aload_n hx hb dX8_matchCountOf_5 rfl (lv_at hl 0 rfl) ?_
  refine lv_iload_n hx hb dX8_matchCountOf_6 rfl (lv_at hl 1 rfl) ?_
  obtain ⟨vz1, hcz, hs⟩ := bd1_some hs
  refine k_rV (As := [.int (iI pz1)]) (rest := []) (st1 := [.int (iI vz1)]) ⟨hx, hb, hml, hown, hts⟩ hK hP (c_X8_isLiveOne l D cI cZ cJ hcz) (cwV 1 hts gX8_matchCountOf_X8_isLiveOne rfl rfl rfl (by decide +kernel) ⟨Nat.le_of_ble_eq_true rfl, Nat.le_of_ble_eq_true rfl⟩) 0 rfl rfl rfl rfl hl.1 rfl (lv_room (Nat.le_of_ble_eq_true rfl)) dX8_matchCountOf_7 ⟨Nat.zero_le _, Nat.zero_le _⟩ rfl ?_
  refine k_if_ne (tgt := 16) hx hb hs dX8_matchCountOf_10 (by decide) (fun hs => ?_) (fun hs => ?_)
  · refine k_bipush (n := (-2)) hx hb (by decide) dX8_matchCountOf_13 ?_
    cases hs
    exact k_iret_w hx hb hr hlk (by rw [hw1]; exact hP) hSz dX8_matchCountOf_15 rfl
  · refine k_iconst (n := 0) hx hb dX8_matchCountOf_16 ?_
    refine lv_istore_n (lv' := [(2, .int (iI 0)), (0, .ref (ad 0)), (1, .int (iI pz1))]) hx hb dX8_matchCountOf_17 rfl hl (by decide) rfl (fun ls hl => ?_)
    refine k_iconst (n := 0) hx hb dX8_matchCountOf_18 ?_
    refine lv_istore_n (lv' := [(3, .int (iI 0)), (2, .int (iI 0)), (0, .ref (ad 0)), (1, .int (iI pz1))]) hx hb dX8_matchCountOf_19 rfl hl (by decide) rfl (fun ls hl => ?_)
    obtain ⟨ez4, hq, hs⟩ := bd1_some hs
    refine Lz20 FU 0 pz1 0 0 ez4 hq Hz lz hP hD hSz ls (lv_sub hl [2, 3, 1, 0] rfl) ?_
    intro Hz lz hP hD hSz ls hl
    refine lv_iload_n hx hb dX8_matchCountOf_57 rfl (lv_at hl 0 rfl) ?_
    cases hs
    exact k_iret_w hx hb hr hlk (by rw [hw1]; exact hP) hSz dX8_matchCountOf_58 rfl
/-! X8_nextMatch -/
set_option maxHeartbeats 4000000 in
set_option maxRecDepth 100000 in
theorem c_X8_nextMatch (l : Launch) (D : va_G) (cI cZ cJ : ClassId) {ad : Nat → Nat} {x_thrown : Int} {x_buffered : Int} {x_given : Int} {x_isFolding : Int} {x_work : Int} {x_rebuilt : Int} {x_streamed : Int} {x_reports : Int} {x_gapFrom : Int} {x_gapSize : Int} {x_elements : Int} {x_wholeSize : Int} {x_isLaid : Int} {x_takenMany : Int} {a_buffer : (Int → Int)} {a_length : (Int → Int)} {a_bytes : (Int → Int)} {a_weight : (Int → Int)} {a_live : (Int → Int)} {a_size : (Int → Int)} {a_list : (Int → Int)} {a_moved : (Int → Int)} {a_planned : (Int → Int)} {a_stream : (Int → Int)} {a_reportedEnd : (Int → Int)} {a_reportedKeyword : (Int → Int)} {a_starts : (Int → Int)} {a_keywordAt : (Int → Int)} {a_element : (Int → Int)} {a_long1 : (Int → Int)} {a_head : (Int → Int)} {a_tail : (Int → Int)} {a_next : (Int → Int)} {a_skip : (Int → Int)} {a_last : (Int → Int)} {a_whole : (Int → Int)} {a_edges : (Int → Int)} {a_covers : (Int → Int)} {a_weighs : (Int → Int)} {a_numbers : (Int → Int)} {a_takes : (Int → Int)} {a_takenAt : (Int → Int)} {pz1 : Int} {pz2 : Int} {r : Int} {y_x_thrown : Int} {sz : Nat} (hs : s_X8_nextMatch x_thrown x_given x_isFolding x_streamed a_length a_bytes a_live a_stream pz1 pz2 = some (r, y_x_thrown)) : Met l yX8_nextMatch wsX8_nextMatch rm_X8_nextMatch (PW D vwCl [(cI, .int), (cZ, .boolean), (cJ, .long)] [.ref (ad 0), .int (iI pz1), .int (iI pz2)] (wM cI cZ cJ ad x_thrown x_buffered x_given x_isFolding x_work x_rebuilt x_streamed x_reports x_gapFrom x_gapSize x_elements x_wholeSize x_isLaid x_takenMany a_buffer a_length a_bytes a_weight a_live a_size a_list a_moved a_planned a_stream a_reportedEnd a_reportedKeyword a_starts a_keywordAt a_element a_long1 a_head a_tail a_next a_skip a_last a_whole a_edges a_covers a_weighs a_numbers a_takes a_takenAt) sz) (QW D vwCl (some (.int (iI r))) (wM cI cZ cJ ad y_x_thrown x_buffered x_given x_isFolding x_work x_rebuilt x_streamed x_reports x_gapFrom x_gapSize x_elements x_wholeSize x_isLaid x_takenMany a_buffer a_length a_bytes a_weight a_live a_size a_list a_moved a_planned a_stream a_reportedEnd a_reportedKeyword a_starts a_keywordAt a_element a_long1 a_head a_tail a_next a_skip a_last a_whole a_edges a_covers a_weighs a_numbers a_takes a_takenAt) (va_A (wM cI cZ cJ ad x_thrown x_buffered x_given x_isFolding x_work x_rebuilt x_streamed x_reports x_gapFrom x_gapSize x_elements x_wholeSize x_isLaid x_takenMany a_buffer a_length a_bytes a_weight a_live a_size a_list a_moved a_planned a_stream a_reportedEnd a_reportedKeyword a_starts a_keywordAt a_element a_long1 a_head a_tail a_next a_skip a_last a_whole a_edges a_covers a_weighs a_numbers a_takes a_takenAt) sz)) 0 0 (va_A (wM cI cZ cJ ad x_thrown x_buffered x_given x_isFolding x_work x_rebuilt x_streamed x_reports x_gapFrom x_gapSize x_elements x_wholeSize x_isLaid x_takenMany a_buffer a_length a_bytes a_weight a_live a_size a_list a_moved a_planned a_stream a_reportedEnd a_reportedKeyword a_starts a_keywordAt a_element a_long1 a_head a_tail a_next a_skip a_last a_whole a_edges a_covers a_weighs a_numbers a_takes a_takenAt) sz) := by
  refine Met.ofW (cc := cX8_nextMatch) (maxL := 4) (ret := (some .int)) (by decide) rfl ?_
  intro p e s m args below meth c s₁ B hml hv
  obtain ⟨hav, hsz, hP, hK, hD0⟩ := hv
  have hx := B.exec
  have hb := B.bytes
  have hr := B.returns
  have hts := atoms_spec (ws := wsX8_nextMatch) B.pre
  have hown : s.vm.findClass RX8 = some m.cls := findClass_of_methodNamed B.named
  have hlk := B.notSynchronized
  have hf1 : (Cond.fieldLink RX8 1 "KeywordMatcherModel" "thrown" "I").before args s = true := hts _ (List.mem_of_getElem? (i := 1) rfl)
  have hiX8 : ∀ w ∈ wsX80, w ∈ wsX8_nextMatch := fun w h => List.mem_cons_of_mem _ (List.mem_append_right _ h)
  have hf170 : (Cond.fieldLink RX8 170 "KeywordMatcherModel" "streamed" "I").before args s = true := hts _ (List.mem_of_getElem? (i := 2) rfl)
  have hf17 : (Cond.fieldLink RX8 17 "KeywordMatcherModel" "length" "[I").before args s = true := hts _ (List.mem_of_getElem? (i := 3) rfl)
  subst hsz
  have hD := hD0.self (sz := s.heap.size)
  generalize hAe : va_A (wM cI cZ cJ ad x_thrown x_buffered x_given x_isFolding x_work x_rebuilt x_streamed x_reports x_gapFrom x_gapSize x_elements x_wholeSize x_isLaid x_takenMany a_buffer a_length a_bytes a_weight a_live a_size a_list a_moved a_planned a_stream a_reportedEnd a_reportedKeyword a_starts a_keywordAt a_element a_long1 a_head a_tail a_next a_skip a_last a_whole a_edges a_covers a_weighs a_numbers a_takes a_takenAt) s.heap.size = Az at hD ⊢
  have hA : ∀ q : Nat, s.heap.size ≤ q → Az q := fun q h => by rw [← hAe]; exact Or.inr h
  clear hAe
  have hSz : va_S Az s.heap s.heap [] := va_S.rf
  obtain ⟨wz, hw1⟩ : ∃ z : va_W, z = (wM cI cZ cJ ad y_x_thrown x_buffered x_given x_isFolding x_work x_rebuilt x_streamed x_reports x_gapFrom x_gapSize x_elements x_wholeSize x_isLaid x_takenMany a_buffer a_length a_bytes a_weight a_live a_size a_list a_moved a_planned a_stream a_reportedEnd a_reportedKeyword a_starts a_keywordAt a_element a_long1 a_head a_tail a_next a_skip a_last a_whole a_edges a_covers a_weighs a_numbers a_takes a_takenAt) := ⟨_, rfl⟩
  rw [← hw1]
  have hl := lv_entry ([.ref (ad 0), .int (iI pz1), .int (iI pz2)]) (n := 4) (Nat.le_of_ble_eq_true rfl)
  rw [show entryFrame m args 4 = entryFrame m ([.ref (ad 0), .int (iI pz1), .int (iI pz2)] : List Value).toArray 4 from by rw [hav], lg_entry_eq]
  generalize (lg_sl ([.ref (ad 0), .int (iI pz1), .int (iI pz2)]) ++ List.replicate (4 - (lg_sl ([.ref (ad 0), .int (iI pz1), .int (iI pz2)])).length) Slot.unset).toArray = ls at hl ⊢
  have hl : lv_has ls 4 [(0, .ref (ad 0)), (1, .int (iI pz1)), (2, .int (iI pz2))] := hl
  unfold s_X8_nextMatch at hs
  have Lz25 : ∀ (fu : Nat) (x_thrown : Int) (l1 : Int) (l3 : Int), s_X8_nextMatch_25 fu x_thrown x_isFolding x_streamed a_length a_bytes a_stream l1 l3 = some (r, y_x_thrown) → ∀ (Hz : Heap) (lz : List Loc), va_P D vwCl (wM cI cZ cJ ad x_thrown x_buffered x_given x_isFolding x_work x_rebuilt x_streamed x_reports x_gapFrom x_gapSize x_elements x_wholeSize x_isLaid x_takenMany a_buffer a_length a_bytes a_weight a_live a_size a_list a_moved a_planned a_stream a_reportedEnd a_reportedKeyword a_starts a_keywordAt a_element a_long1 a_head a_tail a_next a_skip a_last a_whole a_edges a_covers a_weighs a_numbers a_takes a_takenAt) Hz → va_D Az (wM cI cZ cJ ad x_thrown x_buffered x_given x_isFolding x_work x_rebuilt x_streamed x_reports x_gapFrom x_gapSize x_elements x_wholeSize x_isLaid x_takenMany a_buffer a_length a_bytes a_weight a_live a_size a_list a_moved a_planned a_stream a_reportedEnd a_reportedKeyword a_starts a_keywordAt a_element a_long1 a_head a_tail a_next a_skip a_last a_whole a_edges a_covers a_weighs a_numbers a_takes a_takenAt) → va_S Az s.heap Hz lz → ∀ ls : Array Slot, lv_has ls 4 [(0, .ref (ad 0)), (1, .int (iI l1)), (3, .int (iI l3))] → W p l e (headSpec wsX8_nextMatch rm_X8_nextMatch).room s m args below meth c Hz lz 0 0 (MQ below (QW D vwCl (some (.int (iI r))) wz Az) args s 0 0 Az) (F0 m 25 ls []) := by
    intro fu
    induction fu with
    | zero => intro x_thrown l1 l3 hs; cases hs
    | succ fu ih =>
      intro x_thrown l1 l3 hs Hz lz hP hD hSz ls hl
      rw [s_X8_nextMatch_25_s] at hs
      refine lv_iload_n hx hb dX8_nextMatch_25 rfl (lv_at hl 2 rfl) ?_
      refine lv_aload_n hx hb dX8_nextMatch_26 rfl (lv_at hl 0 rfl) ?_
      refine va_get (ci := 8) (v := .int (iI x_streamed)) (C := RX8) (T := TX8) (N := 42) hx hb hts hiX8 hown hK hP 0 rfl rfl 18 (by decide) hf170 (fun _ h9 => h9) rfl dX8_nextMatch_27 ?_
      refine k_icmp_ge (tgt := 56) hx hb hs dX8_nextMatch_30 (by decide) (fun hs => ?_) (fun hs => ?_)
      · refine lv_aload_n hx hb dX8_nextMatch_33 rfl (lv_at hl 0 rfl) ?_
        refine lv_iload_n hx hb dX8_nextMatch_34 rfl (lv_at hl 1 rfl) ?_
        refine lv_iload_n hx hb dX8_nextMatch_35 rfl (lv_at hl 2 rfl) ?_
        refine lv_aload_n hx hb dX8_nextMatch_36 rfl (lv_at hl 0 rfl) ?_
        refine va_get (ci := 8) (v := .ref (ad 2)) (C := RX8) (T := TX8) (N := 42) hx hb hts hiX8 hown hK hP 0 rfl rfl 3 (by decide) hf17 (fun _ h9 => h9) rfl dX8_nextMatch_37 ?_
        refine lv_iload_n hx hb dX8_nextMatch_40 rfl (lv_at hl 1 rfl) ?_
        refine k_iald hx hb hK hP 2 0 rfl rfl (Nat.le_of_ble_eq_true rfl) hs dX8_nextMatch_41 (fun vz2 hs => ?_)
        obtain ⟨vz3, hcz, hs⟩ := bd1_some hs
        refine k_rV (As := [.int (iI l1), .int (iI l3), .int (iI vz2)]) (rest := []) (st1 := [.int (iI vz3)]) ⟨hx, hb, hml, hown, hts⟩ hK hP (c_X8_isInStream l D cI cZ cJ hcz) (cwV 3 hts gX8_nextMatch_X8_isInStream rfl rfl rfl (by decide +kernel) ⟨Nat.le_of_ble_eq_true rfl, Nat.le_of_ble_eq_true rfl⟩) 0 rfl rfl rfl rfl hl.1 rfl (lv_room (Nat.le_of_ble_eq_true rfl)) dX8_nextMatch_42 ⟨Nat.zero_le _, Nat.zero_le _⟩ rfl ?_
        refine k_if_eq (tgt := 50) hx hb hs dX8_nextMatch_45 (by decide) (fun hs => ?_) (fun hs => ?_)
        · refine k_iinc (x := l3) (k := 2) (lv' := [(3, .int (iI (l3 + 1))), (0, .ref (ad 0)), (1, .int (iI l1))]) hx hb dX8_nextMatch_50 hl rfl (by decide) rfl (fun ls hl => ?_)
          refine lv_goto (tgt := 25) hx hb dX8_nextMatch_53 (by decide) ?_
          exact ih x_thrown l1 (l3 + 1)  hs Hz lz hP hD hSz ls (lv_sub hl [1, 2, 0] rfl)
        · refine lv_iload_n hx hb dX8_nextMatch_48 rfl (lv_at hl 2 rfl) ?_
          cases hs
          exact k_iret_w hx hb hr hlk (by rw [hw1]; exact hP) hSz dX8_nextMatch_49 rfl
      · refine k_iconst (n := (-1)) hx hb dX8_nextMatch_56 ?_
        cases hs
        exact k_iret_w hx hb hr hlk (by rw [hw1]; exact hP) hSz dX8_nextMatch_57 rfl
  refine (?_ : ∀ (Hz : Heap) (lz : List Loc), va_P D vwCl (wM cI cZ cJ ad x_thrown x_buffered x_given x_isFolding x_work x_rebuilt x_streamed x_reports x_gapFrom x_gapSize x_elements x_wholeSize x_isLaid x_takenMany a_buffer a_length a_bytes a_weight a_live a_size a_list a_moved a_planned a_stream a_reportedEnd a_reportedKeyword a_starts a_keywordAt a_element a_long1 a_head a_tail a_next a_skip a_last a_whole a_edges a_covers a_weighs a_numbers a_takes a_takenAt) Hz → va_D Az (wM cI cZ cJ ad x_thrown x_buffered x_given x_isFolding x_work x_rebuilt x_streamed x_reports x_gapFrom x_gapSize x_elements x_wholeSize x_isLaid x_takenMany a_buffer a_length a_bytes a_weight a_live a_size a_list a_moved a_planned a_stream a_reportedEnd a_reportedKeyword a_starts a_keywordAt a_element a_long1 a_head a_tail a_next a_skip a_last a_whole a_edges a_covers a_weighs a_numbers a_takes a_takenAt) → va_S Az s.heap Hz lz → W p l e (headSpec wsX8_nextMatch rm_X8_nextMatch).room s m args below meth c Hz lz 0 0 (MQ below (QW D vwCl (some (.int (iI r))) wz Az) args s 0 0 Az) (F0 m 0 ls [])) s.heap [] hP hD hSz
  intro Hz lz hP hD hSz
  refine lv_aload_n hx hb dX8_nextMatch_0 rfl (lv_at hl 0 rfl) ?_
  refine k_iconst (n := 0) hx hb dX8_nextMatch_1 ?_
  refine va_put (ci := 8) (v := .int (iI 0)) (ty := .int) (C := RX8) (T := TX8) (N := 42) hx hb hts hiX8 tyX8 tyX8_ok nmX8 hown hK hP hD hSz 0 rfl rfl 0 (by decide) hf1 (fun _ h9 => h9) rfl (by decide +kernel) rfl rfl (Nat.le_of_ble_eq_true rfl) dX8_nextMatch_2 (fun Hz lz hP hD hSz => ?_)
  have hP : va_P D vwCl (wM cI cZ cJ ad 0 x_buffered x_given x_isFolding x_work x_rebuilt x_streamed x_reports x_gapFrom x_gapSize x_elements x_wholeSize x_isLaid x_takenMany a_buffer a_length a_bytes a_weight a_live a_size a_list a_moved a_planned a_stream a_reportedEnd a_reportedKeyword a_starts a_keywordAt a_element a_long1 a_head a_tail a_next a_skip a_last a_whole a_edges a_covers a_weighs a_numbers a_takes a_takenAt) Hz := hP
  have hD : va_D Az (wM cI cZ cJ ad 0 x_buffered x_given x_isFolding x_work x_rebuilt x_streamed x_reports x_gapFrom x_gapSize x_elements x_wholeSize x_isLaid x_takenMany a_buffer a_length a_bytes a_weight a_live a_size a_list a_moved a_planned a_stream a_reportedEnd a_reportedKeyword a_starts a_keywordAt a_element a_long1 a_head a_tail a_next a_skip a_last a_whole a_edges a_covers a_weighs a_numbers a_takes a_takenAt) := hD
  refine lv_aload_n hx hb dX8_nextMatch_5 rfl (lv_at hl 0 rfl) ?_
  refine lv_iload_n hx hb dX8_nextMatch_6 rfl (lv_at hl 1 rfl) ?_
  obtain ⟨vz1, hcz, hs⟩ := bd1_some hs
  refine k_rV (As := [.int (iI pz1)]) (rest := []) (st1 := [.int (iI vz1)]) ⟨hx, hb, hml, hown, hts⟩ hK hP (c_X8_isLiveOne l D cI cZ cJ hcz) (cwV 1 hts gX8_nextMatch_X8_isLiveOne rfl rfl rfl (by decide +kernel) ⟨Nat.le_of_ble_eq_true rfl, Nat.le_of_ble_eq_true rfl⟩) 0 rfl rfl rfl rfl hl.1 rfl (lv_room (Nat.le_of_ble_eq_true rfl)) dX8_nextMatch_7 ⟨Nat.zero_le _, Nat.zero_le _⟩ rfl ?_
  refine k_if_ne (tgt := 16) hx hb hs dX8_nextMatch_10 (by decide) (fun hs => ?_) (fun hs => ?_)
  · refine k_bipush (n := (-2)) hx hb (by decide) dX8_nextMatch_13 ?_
    cases hs
    exact k_iret_w hx hb hr hlk (by rw [hw1]; exact hP) hSz dX8_nextMatch_15 rfl
  · refine lv_iload_n hx hb dX8_nextMatch_16 rfl (lv_at hl 2 rfl) ?_
    refine k_if_ge (tgt := 23) hx hb hs dX8_nextMatch_17 (by decide) (fun hs => ?_) (fun hs => ?_)
    · refine k_bipush (n := (-3)) hx hb (by decide) dX8_nextMatch_20 ?_
      cases hs
      exact k_iret_w hx hb hr hlk (by rw [hw1]; exact hP) hSz dX8_nextMatch_22 rfl
    · refine lv_iload_n hx hb dX8_nextMatch_23 rfl (lv_at hl 2 rfl) ?_
      refine lv_istore_n (lv' := [(3, .int (iI pz2)), (0, .ref (ad 0)), (1, .int (iI pz1)), (2, .int (iI pz2))]) hx hb dX8_nextMatch_24 rfl hl (by decide) rfl (fun ls hl => ?_)
      exact Lz25 FU 0 pz1 pz2 hs Hz lz hP hD hSz ls (lv_sub hl [1, 2, 0] rfl)
/-! X8_startsAt -/
set_option maxHeartbeats 4000000 in
set_option maxRecDepth 100000 in
theorem c_X8_startsAt (l : Launch) (D : va_G) (cI cZ cJ : ClassId) {ad : Nat → Nat} {x_thrown : Int} {x_buffered : Int} {x_given : Int} {x_isFolding : Int} {x_work : Int} {x_rebuilt : Int} {x_streamed : Int} {x_reports : Int} {x_gapFrom : Int} {x_gapSize : Int} {x_elements : Int} {x_wholeSize : Int} {x_isLaid : Int} {x_takenMany : Int} {a_buffer : (Int → Int)} {a_length : (Int → Int)} {a_bytes : (Int → Int)} {a_weight : (Int → Int)} {a_live : (Int → Int)} {a_size : (Int → Int)} {a_list : (Int → Int)} {a_moved : (Int → Int)} {a_planned : (Int → Int)} {a_stream : (Int → Int)} {a_reportedEnd : (Int → Int)} {a_reportedKeyword : (Int → Int)} {a_starts : (Int → Int)} {a_keywordAt : (Int → Int)} {a_element : (Int → Int)} {a_long1 : (Int → Int)} {a_head : (Int → Int)} {a_tail : (Int → Int)} {a_next : (Int → Int)} {a_skip : (Int → Int)} {a_last : (Int → Int)} {a_whole : (Int → Int)} {a_edges : (Int → Int)} {a_covers : (Int → Int)} {a_weighs : (Int → Int)} {a_numbers : (Int → Int)} {a_takes : (Int → Int)} {a_takenAt : (Int → Int)} {pz1 : Int} {r : Int} (hs : s_X8_startsAt a_starts pz1 = some r) : Met l yX8_startsAt wsX8_startsAt rm_X8_startsAt (PR D vwCl [(cI, .int), (cZ, .boolean), (cJ, .long)] [.ref (ad 0), .int (iI pz1)] (wM cI cZ cJ ad x_thrown x_buffered x_given x_isFolding x_work x_rebuilt x_streamed x_reports x_gapFrom x_gapSize x_elements x_wholeSize x_isLaid x_takenMany a_buffer a_length a_bytes a_weight a_live a_size a_list a_moved a_planned a_stream a_reportedEnd a_reportedKeyword a_starts a_keywordAt a_element a_long1 a_head a_tail a_next a_skip a_last a_whole a_edges a_covers a_weighs a_numbers a_takes a_takenAt)) (QR (some (.int (iI r)))) 0 0 (fun _ => False) := by
  refine Met.ofW (cc := cX8_startsAt) (maxL := 4) (ret := (some .int)) (by decide) rfl ?_
  intro p e s m args below meth c s₁ B hml hv
  obtain ⟨hav, hP, hK⟩ := hv
  have hx := B.exec
  have hb := B.bytes
  have hr := B.returns
  have hts := atoms_spec (ws := wsX8_startsAt) B.pre
  have hown : s.vm.findClass RX8 = some m.cls := findClass_of_methodNamed B.named
  have hlk := B.notSynchronized
  have hl := lv_entry ([.ref (ad 0), .int (iI pz1)]) (n := 4) (Nat.le_of_ble_eq_true rfl)
  rw [show entryFrame m args 4 = entryFrame m ([.ref (ad 0), .int (iI pz1)] : List Value).toArray 4 from by rw [hav], lg_entry_eq]
  generalize (lg_sl ([.ref (ad 0), .int (iI pz1)]) ++ List.replicate (4 - (lg_sl ([.ref (ad 0), .int (iI pz1)])).length) Slot.unset).toArray = ls at hl ⊢
  have hl : lv_has ls 4 [(0, .ref (ad 0)), (1, .int (iI pz1))] := hl
  unfold s_X8_startsAt at hs
  have Lz4 : ∀ (fu : Nat) (l1 : Int) (l2 : Int) (l3 : Int) (y0 : Int), s_X8_startsAt_4 fu a_starts l1 l2 l3 = some y0 → ∀ ls : Array Slot, lv_has ls 4 [(0, .ref (ad 0)), (1, .int (iI l1)), (2, .int (iI l2)), (3, .int (iI l3))] → (∀ ls : Array Slot, lv_has ls 4 [(2, .int (iI y0))] → W p l e (headSpec wsX8_startsAt rm_X8_startsAt).room s m args below meth c s.heap [] 0 0 (MQ below (QR (some (.int (iI r)))) args s 0 0 (fun _ => False)) (F0 m 33 ls [])) → W p l e (headSpec wsX8_startsAt rm_X8_startsAt).room s m args below meth c s.heap [] 0 0 (MQ below (QR (some (.int (iI r)))) args s 0 0 (fun _ => False)) (F0 m 4 ls []) := by
    intro fu
    induction fu with
    | zero => intro l1 l2 l3 y0 hs; cases hs
    | succ fu ih =>
      intro l1 l2 l3 y0 hs ls hl kx
      rw [s_X8_startsAt_4_s] at hs
      refine lv_iload_n hx hb dX8_startsAt_4 rfl (lv_at hl 3 rfl) ?_
      refine k_bipush (n := 16) hx hb (by decide) dX8_startsAt_5 ?_
      refine k_icmp_gt (tgt := 33) hx hb hs dX8_startsAt_7 (by decide) (fun hs => ?_) (fun hs => ?_)
      · cases hs
        exact kx ls (lv_sub hl [2] rfl)
      · refine lv_iload_n hx hb dX8_startsAt_10 rfl (lv_at hl 2 rfl) ?_
        refine lv_aload_n hx hb dX8_startsAt_11 rfl (lv_at hl 0 rfl) ?_
        refine lv_iload_n hx hb dX8_startsAt_12 rfl (lv_at hl 1 rfl) ?_
        refine lv_iload_n hx hb dX8_startsAt_13 rfl (lv_at hl 3 rfl) ?_
        obtain ⟨vz1, hcz, hs⟩ := bd1_some hs
        refine k_rV (As := [.int (iI l1), .int (iI l3)]) (rest := [.int (iI l2)]) (st1 := [.int (iI vz1), .int (iI l2)]) ⟨hx, hb, hml, hown, hts⟩ hK hP (c_X8_hasAt l D cI cZ cJ hcz) (cwV 2 hts gX8_startsAt_X8_hasAt rfl rfl rfl (by decide +kernel) ⟨Nat.le_of_ble_eq_true rfl, Nat.le_of_ble_eq_true rfl⟩) 0 rfl rfl rfl rfl hl.1 rfl (lv_room (Nat.le_of_ble_eq_true rfl)) dX8_startsAt_14 ⟨Nat.zero_le _, Nat.zero_le _⟩ rfl ?_
        refine k_if_eq (tgt := 24) hx hb hs dX8_startsAt_17 (by decide) (fun hs => ?_) (fun hs => ?_)
        · refine k_iconst (n := 0) hx hb dX8_startsAt_24 ?_
          refine k_iadd hx hb dX8_startsAt_25 ?_
          refine lv_istore_n (lv' := [(2, .int (iI (l2 + 0))), (0, .ref (ad 0)), (1, .int (iI l1)), (3, .int (iI l3))]) hx hb dX8_startsAt_26 rfl hl (by decide) rfl (fun ls hl => ?_)
          refine k_iinc (x := l3) (k := 3) (lv' := [(3, .int (iI (l3 + 1))), (2, .int (iI (l2 + 0))), (0, .ref (ad 0)), (1, .int (iI l1))]) hx hb dX8_startsAt_27 hl rfl (by decide) rfl (fun ls hl => ?_)
          refine lv_goto (tgt := 4) hx hb dX8_startsAt_30 (by decide) ?_
          exact ih l1 (l2 + 0) (l3 + 1) y0 hs ls (lv_sub hl [2, 3, 1, 0] rfl) kx
        · refine k_iconst (n := 1) hx hb dX8_startsAt_20 ?_
          refine lv_goto (tgt := 25) hx hb dX8_startsAt_21 (by decide) ?_
          refine k_iadd hx hb dX8_startsAt_25 ?_
          refine lv_istore_n (lv' := [(2, .int (iI (l2 + 1))), (0, .ref (ad 0)), (1, .int (iI l1)), (3, .int (iI l3))]) hx hb dX8_startsAt_26 rfl hl (by decide) rfl (fun ls hl => ?_)
          refine k_iinc (x := l3) (k := 3) (lv' := [(3, .int (iI (l3 + 1))), (2, .int (iI (l2 + 1))), (0, .ref (ad 0)), (1, .int (iI l1))]) hx hb dX8_startsAt_27 hl rfl (by decide) rfl (fun ls hl => ?_)
          refine lv_goto (tgt := 4) hx hb dX8_startsAt_30 (by decide) ?_
          exact ih l1 (l2 + 1) (l3 + 1) y0 hs ls (lv_sub hl [2, 3, 1, 0] rfl) kx
  refine k_iconst (n := 0) hx hb dX8_startsAt_0 ?_
  refine lv_istore_n (lv' := [(2, .int (iI 0)), (0, .ref (ad 0)), (1, .int (iI pz1))]) hx hb dX8_startsAt_1 rfl hl (by decide) rfl (fun ls hl => ?_)
  refine k_iconst (n := 1) hx hb dX8_startsAt_2 ?_
  refine lv_istore_n (lv' := [(3, .int (iI 1)), (2, .int (iI 0)), (0, .ref (ad 0)), (1, .int (iI pz1))]) hx hb dX8_startsAt_3 rfl hl (by decide) rfl (fun ls hl => ?_)
  obtain ⟨ez2, hq, hs⟩ := bd1_some hs
  refine Lz4 FU pz1 0 1 ez2 hq ls (lv_sub hl [2, 3, 1, 0] rfl) ?_
  intro ls hl
  refine lv_iload_n hx hb dX8_startsAt_33 rfl (lv_at hl 0 rfl) ?_
  cases hs
  exact k_iret_r hx hb hr hlk rfl dX8_startsAt_34 rfl
/-! X8_overlappingPairs -/
set_option maxHeartbeats 4000000 in
set_option maxRecDepth 100000 in
theorem c_X8_overlappingPairs (l : Launch) (D : va_G) (cI cZ cJ : ClassId) {ad : Nat → Nat} {x_thrown : Int} {x_buffered : Int} {x_given : Int} {x_isFolding : Int} {x_work : Int} {x_rebuilt : Int} {x_streamed : Int} {x_reports : Int} {x_gapFrom : Int} {x_gapSize : Int} {x_elements : Int} {x_wholeSize : Int} {x_isLaid : Int} {x_takenMany : Int} {a_buffer : (Int → Int)} {a_length : (Int → Int)} {a_bytes : (Int → Int)} {a_weight : (Int → Int)} {a_live : (Int → Int)} {a_size : (Int → Int)} {a_list : (Int → Int)} {a_moved : (Int → Int)} {a_planned : (Int → Int)} {a_stream : (Int → Int)} {a_reportedEnd : (Int → Int)} {a_reportedKeyword : (Int → Int)} {a_starts : (Int → Int)} {a_keywordAt : (Int → Int)} {a_element : (Int → Int)} {a_long1 : (Int → Int)} {a_head : (Int → Int)} {a_tail : (Int → Int)} {a_next : (Int → Int)} {a_skip : (Int → Int)} {a_last : (Int → Int)} {a_whole : (Int → Int)} {a_edges : (Int → Int)} {a_covers : (Int → Int)} {a_weighs : (Int → Int)} {a_numbers : (Int → Int)} {a_takes : (Int → Int)} {a_takenAt : (Int → Int)} {r : Int} {y_x_thrown : Int} {y_a_starts : (Int → Int)} {y_a_keywordAt : (Int → Int)} {sz : Nat} (hs : s_X8_overlappingPairs x_thrown x_given x_isFolding x_streamed a_length a_bytes a_live a_stream a_starts a_keywordAt = some (r, y_x_thrown, y_a_starts, y_a_keywordAt)) : Met l yX8_overlappingPairs wsX8_overlappingPairs rm_X8_overlappingPairs (PW D vwCl [(cI, .int), (cZ, .boolean), (cJ, .long)] [.ref (ad 0)] (wM cI cZ cJ ad x_thrown x_buffered x_given x_isFolding x_work x_rebuilt x_streamed x_reports x_gapFrom x_gapSize x_elements x_wholeSize x_isLaid x_takenMany a_buffer a_length a_bytes a_weight a_live a_size a_list a_moved a_planned a_stream a_reportedEnd a_reportedKeyword a_starts a_keywordAt a_element a_long1 a_head a_tail a_next a_skip a_last a_whole a_edges a_covers a_weighs a_numbers a_takes a_takenAt) sz) (QW D vwCl (some (.int (iI r))) (wM cI cZ cJ ad y_x_thrown x_buffered x_given x_isFolding x_work x_rebuilt x_streamed x_reports x_gapFrom x_gapSize x_elements x_wholeSize x_isLaid x_takenMany a_buffer a_length a_bytes a_weight a_live a_size a_list a_moved a_planned a_stream a_reportedEnd a_reportedKeyword y_a_starts y_a_keywordAt a_element a_long1 a_head a_tail a_next a_skip a_last a_whole a_edges a_covers a_weighs a_numbers a_takes a_takenAt) (va_A (wM cI cZ cJ ad x_thrown x_buffered x_given x_isFolding x_work x_rebuilt x_streamed x_reports x_gapFrom x_gapSize x_elements x_wholeSize x_isLaid x_takenMany a_buffer a_length a_bytes a_weight a_live a_size a_list a_moved a_planned a_stream a_reportedEnd a_reportedKeyword a_starts a_keywordAt a_element a_long1 a_head a_tail a_next a_skip a_last a_whole a_edges a_covers a_weighs a_numbers a_takes a_takenAt) sz)) 0 0 (va_A (wM cI cZ cJ ad x_thrown x_buffered x_given x_isFolding x_work x_rebuilt x_streamed x_reports x_gapFrom x_gapSize x_elements x_wholeSize x_isLaid x_takenMany a_buffer a_length a_bytes a_weight a_live a_size a_list a_moved a_planned a_stream a_reportedEnd a_reportedKeyword a_starts a_keywordAt a_element a_long1 a_head a_tail a_next a_skip a_last a_whole a_edges a_covers a_weighs a_numbers a_takes a_takenAt) sz) := by
  refine Met.ofW (cc := cX8_overlappingPairs) (maxL := 6) (ret := (some .int)) (by decide) rfl ?_
  intro p e s m args below meth c s₁ B hml hv
  obtain ⟨hav, hsz, hP, hK, hD0⟩ := hv
  have hx := B.exec
  have hb := B.bytes
  have hr := B.returns
  have hts := atoms_spec (ws := wsX8_overlappingPairs) B.pre
  have hown : s.vm.findClass RX8 = some m.cls := findClass_of_methodNamed B.named
  have hlk := B.notSynchronized
  have hf1 : (Cond.fieldLink RX8 1 "KeywordMatcherModel" "thrown" "I").before args s = true := hts _ (List.mem_of_getElem? (i := 1) rfl)
  have hiX8 : ∀ w ∈ wsX80, w ∈ wsX8_overlappingPairs := fun w h => List.mem_cons_of_mem _ (List.mem_append_right _ h)
  have hf170 : (Cond.fieldLink RX8 170 "KeywordMatcherModel" "streamed" "I").before args s = true := hts _ (List.mem_of_getElem? (i := 2) rfl)
  subst hsz
  have hD := hD0.self (sz := s.heap.size)
  generalize hAe : va_A (wM cI cZ cJ ad x_thrown x_buffered x_given x_isFolding x_work x_rebuilt x_streamed x_reports x_gapFrom x_gapSize x_elements x_wholeSize x_isLaid x_takenMany a_buffer a_length a_bytes a_weight a_live a_size a_list a_moved a_planned a_stream a_reportedEnd a_reportedKeyword a_starts a_keywordAt a_element a_long1 a_head a_tail a_next a_skip a_last a_whole a_edges a_covers a_weighs a_numbers a_takes a_takenAt) s.heap.size = Az at hD ⊢
  have hA : ∀ q : Nat, s.heap.size ≤ q → Az q := fun q h => by rw [← hAe]; exact Or.inr h
  clear hAe
  have hSz : va_S Az s.heap s.heap [] := va_S.rf
  obtain ⟨wz, hw1⟩ : ∃ z : va_W, z = (wM cI cZ cJ ad y_x_thrown x_buffered x_given x_isFolding x_work x_rebuilt x_streamed x_reports x_gapFrom x_gapSize x_elements x_wholeSize x_isLaid x_takenMany a_buffer a_length a_bytes a_weight a_live a_size a_list a_moved a_planned a_stream a_reportedEnd a_reportedKeyword y_a_starts y_a_keywordAt a_element a_long1 a_head a_tail a_next a_skip a_last a_whole a_edges a_covers a_weighs a_numbers a_takes a_takenAt) := ⟨_, rfl⟩
  rw [← hw1]
  have hl := lv_entry ([.ref (ad 0)]) (n := 6) (Nat.le_of_ble_eq_true rfl)
  rw [show entryFrame m args 6 = entryFrame m ([.ref (ad 0)] : List Value).toArray 6 from by rw [hav], lg_entry_eq]
  generalize (lg_sl ([.ref (ad 0)]) ++ List.replicate (6 - (lg_sl ([.ref (ad 0)])).length) Slot.unset).toArray = ls at hl ⊢
  have hl : lv_has ls 6 [(0, .ref (ad 0))] := hl
  unfold s_X8_overlappingPairs at hs
  have Lz65 : ∀ (fu : Nat) (x_thrown : Int) (a_starts : (Int → Int)) (a_keywordAt : (Int → Int)) (l1 : Int) (l2 : Int) (l4 : Int) (l5 : Int) (y0 : Int), s_X8_overlappingPairs_65 fu a_starts l1 l2 l4 l5 = some y0 → ∀ (Hz : Heap) (lz : List Loc), va_P D vwCl (wM cI cZ cJ ad x_thrown x_buffered x_given x_isFolding x_work x_rebuilt x_streamed x_reports x_gapFrom x_gapSize x_elements x_wholeSize x_isLaid x_takenMany a_buffer a_length a_bytes a_weight a_live a_size a_list a_moved a_planned a_stream a_reportedEnd a_reportedKeyword a_starts a_keywordAt a_element a_long1 a_head a_tail a_next a_skip a_last a_whole a_edges a_covers a_weighs a_numbers a_takes a_takenAt) Hz → va_D Az (wM cI cZ cJ ad x_thrown x_buffered x_given x_isFolding x_work x_rebuilt x_streamed x_reports x_gapFrom x_gapSize x_elements x_wholeSize x_isLaid x_takenMany a_buffer a_length a_bytes a_weight a_live a_size a_list a_moved a_planned a_stream a_reportedEnd a_reportedKeyword a_starts a_keywordAt a_element a_long1 a_head a_tail a_next a_skip a_last a_whole a_edges a_covers a_weighs a_numbers a_takes a_takenAt) → va_S Az s.heap Hz lz → ∀ ls : Array Slot, lv_has ls 6 [(0, .ref (ad 0)), (1, .int (iI l1)), (2, .int (iI l2)), (4, .int (iI l4)), (5, .int (iI l5))] → (∀ (Hz : Heap) (lz : List Loc), va_P D vwCl (wM cI cZ cJ ad x_thrown x_buffered x_given x_isFolding x_work x_rebuilt x_streamed x_reports x_gapFrom x_gapSize x_elements x_wholeSize x_isLaid x_takenMany a_buffer a_length a_bytes a_weight a_live a_size a_list a_moved a_planned a_stream a_reportedEnd a_reportedKeyword a_starts a_keywordAt a_element a_long1 a_head a_tail a_next a_skip a_last a_whole a_edges a_covers a_weighs a_numbers a_takes a_takenAt) Hz → va_D Az (wM cI cZ cJ ad x_thrown x_buffered x_given x_isFolding x_work x_rebuilt x_streamed x_reports x_gapFrom x_gapSize x_elements x_wholeSize x_isLaid x_takenMany a_buffer a_length a_bytes a_weight a_live a_size a_list a_moved a_planned a_stream a_reportedEnd a_reportedKeyword a_starts a_keywordAt a_element a_long1 a_head a_tail a_next a_skip a_last a_whole a_edges a_covers a_weighs a_numbers a_takes a_takenAt) → va_S Az s.heap Hz lz → ∀ ls : Array Slot, lv_has ls 6 [(0, .ref (ad 0)), (1, .int (iI y0)), (2, .int (iI l2)), (4, .int (iI l4))] → W p l e (headSpec wsX8_overlappingPairs rm_X8_overlappingPairs).room s m args below meth c Hz lz 0 0 (MQ below (QW D vwCl (some (.int (iI r))) wz Az) args s 0 0 Az) (F0 m 89 ls [])) → W p l e (headSpec wsX8_overlappingPairs rm_X8_overlappingPairs).room s m args below meth c Hz lz 0 0 (MQ below (QW D vwCl (some (.int (iI r))) wz Az) args s 0 0 Az) (F0 m 65 ls []) := by
    intro fu
    induction fu with
    | zero => intro x_thrown a_starts a_keywordAt l1 l2 l4 l5 y0 hs; cases hs
    | succ fu ih =>
      intro x_thrown a_starts a_keywordAt l1 l2 l4 l5 y0 hs Hz lz hP hD hSz ls hl kx
      rw [s_X8_overlappingPairs_65_s] at hs
      refine lv_iload hx hb dX8_overlappingPairs_65 (lv_at hl 4 rfl) ?_
      refine lv_iload_n hx hb dX8_overlappingPairs_67 rfl (lv_at hl 2 rfl) ?_
      refine lv_iload hx hb dX8_overlappingPairs_68 (lv_at hl 3 rfl) ?_
      refine k_iadd hx hb dX8_overlappingPairs_70 ?_
      refine k_icmp_ge (tgt := 89) hx hb hs dX8_overlappingPairs_71 (by decide) (fun hs => ?_) (fun hs => ?_)
      · refine lv_iload_n hx hb dX8_overlappingPairs_74 rfl (lv_at hl 1 rfl) ?_
        refine lv_aload_n hx hb dX8_overlappingPairs_75 rfl (lv_at hl 0 rfl) ?_
        refine lv_iload hx hb dX8_overlappingPairs_76 (lv_at hl 4 rfl) ?_
        obtain ⟨vz5, hcz, hs⟩ := bd1_some hs
        refine k_rV (As := [.int (iI l5)]) (rest := [.int (iI l1)]) (st1 := [.int (iI vz5), .int (iI l1)]) ⟨hx, hb, hml, hown, hts⟩ hK hP (c_X8_startsAt l D cI cZ cJ hcz) (cwV 1 hts gX8_overlappingPairs_X8_startsAt rfl rfl rfl (by decide +kernel) ⟨Nat.le_of_ble_eq_true rfl, Nat.le_of_ble_eq_true rfl⟩) 0 rfl rfl rfl rfl hl.1 rfl (lv_room (Nat.le_of_ble_eq_true rfl)) dX8_overlappingPairs_78 ⟨Nat.zero_le _, Nat.zero_le _⟩ rfl ?_
        refine k_iadd hx hb dX8_overlappingPairs_81 ?_
        refine lv_istore_n (lv' := [(1, .int (iI (l1 + vz5))), (0, .ref (ad 0)), (2, .int (iI l2)), (4, .int (iI l4)), (5, .int (iI l5))]) hx hb dX8_overlappingPairs_82 rfl hl (by decide) rfl (fun ls hl => ?_)
        refine k_iinc (x := l5) (k := 4) (lv' := [(5, .int (iI (l5 + 1))), (1, .int (iI (l1 + vz5))), (0, .ref (ad 0)), (2, .int (iI l2)), (4, .int (iI l4))]) hx hb dX8_overlappingPairs_83 hl rfl (by decide) rfl (fun ls hl => ?_)
        refine lv_goto (tgt := 65) hx hb dX8_overlappingPairs_86 (by decide) ?_
        exact ih x_thrown a_starts a_keywordAt (l1 + vz5) l2 l4 (l5 + 1) y0 hs Hz lz hP hD hSz ls (lv_sub hl [2, 1, 3, 4, 0] rfl) kx
      · cases hs
        exact kx Hz lz hP hD hSz ls (lv_sub hl [0, 1, 2, 3] rfl)
  have Lz40 : ∀ (fu : Nat) (x_thrown : Int) (a_starts : (Int → Int)) (a_keywordAt : (Int → Int)) (l1 : Int) (l2 : Int) (l4 : Int) (y0 : Int), s_X8_overlappingPairs_40 fu a_starts l1 l2 l4 = some y0 → ∀ (Hz : Heap) (lz : List Loc), va_P D vwCl (wM cI cZ cJ ad x_thrown x_buffered x_given x_isFolding x_work x_rebuilt x_streamed x_reports x_gapFrom x_gapSize x_elements x_wholeSize x_isLaid x_takenMany a_buffer a_length a_bytes a_weight a_live a_size a_list a_moved a_planned a_stream a_reportedEnd a_reportedKeyword a_starts a_keywordAt a_element a_long1 a_head a_tail a_next a_skip a_last a_whole a_edges a_covers a_weighs a_numbers a_takes a_takenAt) Hz → va_D Az (wM cI cZ cJ ad x_thrown x_buffered x_given x_isFolding x_work x_rebuilt x_streamed x_reports x_gapFrom x_gapSize x_elements x_wholeSize x_isLaid x_takenMany a_buffer a_length a_bytes a_weight a_live a_size a_list a_moved a_planned a_stream a_reportedEnd a_reportedKeyword a_starts a_keywordAt a_element a_long1 a_head a_tail a_next a_skip a_last a_whole a_edges a_covers a_weighs a_numbers a_takes a_takenAt) → va_S Az s.heap Hz lz → ∀ ls : Array Slot, lv_has ls 6 [(0, .ref (ad 0)), (1, .int (iI l1)), (2, .int (iI l2)), (4, .int (iI l4))] → (∀ (Hz : Heap) (lz : List Loc), va_P D vwCl (wM cI cZ cJ ad x_thrown x_buffered x_given x_isFolding x_work x_rebuilt x_streamed x_reports x_gapFrom x_gapSize x_elements x_wholeSize x_isLaid x_takenMany a_buffer a_length a_bytes a_weight a_live a_size a_list a_moved a_planned a_stream a_reportedEnd a_reportedKeyword a_starts a_keywordAt a_element a_long1 a_head a_tail a_next a_skip a_last a_whole a_edges a_covers a_weighs a_numbers a_takes a_takenAt) Hz → va_D Az (wM cI cZ cJ ad x_thrown x_buffered x_given x_isFolding x_work x_rebuilt x_streamed x_reports x_gapFrom x_gapSize x_elements x_wholeSize x_isLaid x_takenMany a_buffer a_length a_bytes a_weight a_live a_size a_list a_moved a_planned a_stream a_reportedEnd a_reportedKeyword a_starts a_keywordAt a_element a_long1 a_head a_tail a_next a_skip a_last a_whole a_edges a_covers a_weighs a_numbers a_takes a_takenAt) → va_S Az s.heap Hz lz → ∀ ls : Array Slot, lv_has ls 6 [(0, .ref (ad 0)), (1, .int (iI y0)), (2, .int (iI l2))] → W p l e (headSpec wsX8_overlappingPairs rm_X8_overlappingPairs).room s m args below meth c Hz lz 0 0 (MQ below (QW D vwCl (some (.int (iI r))) wz Az) args s 0 0 Az) (F0 m 95 ls [])) → W p l e (headSpec wsX8_overlappingPairs rm_X8_overlappingPairs).room s m args below meth c Hz lz 0 0 (MQ below (QW D vwCl (some (.int (iI r))) wz Az) args s 0 0 Az) (F0 m 40 ls []) := by
    intro fu
    induction fu with
    | zero => intro x_thrown a_starts a_keywordAt l1 l2 l4 y0 hs; cases hs
    | succ fu ih =>
      intro x_thrown a_starts a_keywordAt l1 l2 l4 y0 hs Hz lz hP hD hSz ls hl kx
      rw [s_X8_overlappingPairs_40_s] at hs
      refine lv_iload hx hb dX8_overlappingPairs_40 (lv_at hl 3 rfl) ?_
      refine k_bipush (n := 16) hx hb (by decide) dX8_overlappingPairs_42 ?_
      refine k_icmp_gt (tgt := 95) hx hb hs dX8_overlappingPairs_44 (by decide) (fun hs => ?_) (fun hs => ?_)
      · cases hs
        exact kx Hz lz hP hD hSz ls (lv_sub hl [0, 1, 2] rfl)
      · refine lv_aload_n hx hb dX8_overlappingPairs_47 rfl (lv_at hl 0 rfl) ?_
        refine lv_iload_n hx hb dX8_overlappingPairs_48 rfl (lv_at hl 2 rfl) ?_
        refine lv_iload hx hb dX8_overlappingPairs_49 (lv_at hl 3 rfl) ?_
        obtain ⟨vz4, hcz, hs⟩ := bd1_some hs
        refine k_rV (As := [.int (iI l2), .int (iI l4)]) (rest := []) (st1 := [.int (iI vz4)]) ⟨hx, hb, hml, hown, hts⟩ hK hP (c_X8_hasAt l D cI cZ cJ hcz) (cwV 2 hts gX8_overlappingPairs_X8_hasAt rfl rfl rfl (by decide +kernel) ⟨Nat.le_of_ble_eq_true rfl, Nat.le_of_ble_eq_true rfl⟩) 0 rfl rfl rfl rfl hl.1 rfl (lv_room (Nat.le_of_ble_eq_true rfl)) dX8_overlappingPairs_51 ⟨Nat.zero_le _, Nat.zero_le _⟩ rfl ?_
        refine k_if_ne (tgt := 60) hx hb hs dX8_overlappingPairs_54 (by decide) (fun hs => ?_) (fun hs => ?_)
        · refine lv_goto (tgt := 89) hx hb dX8_overlappingPairs_57 (by decide) ?_
          refine k_iinc (x := l4) (k := 3) (lv' := [(4, .int (iI (l4 + 1))), (0, .ref (ad 0)), (1, .int (iI l1)), (2, .int (iI l2))]) hx hb dX8_overlappingPairs_89 hl rfl (by decide) rfl (fun ls hl => ?_)
          refine lv_goto (tgt := 40) hx hb dX8_overlappingPairs_92 (by decide) ?_
          exact ih x_thrown a_starts a_keywordAt l1 l2 (l4 + 1) y0 hs Hz lz hP hD hSz ls (lv_sub hl [1, 2, 3, 0] rfl) kx
        · refine lv_iload_n hx hb dX8_overlappingPairs_60 rfl (lv_at hl 2 rfl) ?_
          refine k_iconst (n := 1) hx hb dX8_overlappingPairs_61 ?_
          refine k_iadd hx hb dX8_overlappingPairs_62 ?_
          refine lv_istore (lv' := [(5, .int (iI (l2 + 1))), (0, .ref (ad 0)), (1, .int (iI l1)), (2, .int (iI l2)), (4, .int (iI l4))]) hx hb dX8_overlappingPairs_63 hl (by decide) rfl (fun ls hl => ?_)
          obtain ⟨ez6, hq, hs⟩ := bd1_some hs
          refine Lz65 FU x_thrown a_starts a_keywordAt l1 l2 l4 (l2 + 1) ez6 hq Hz lz hP hD hSz ls (lv_sub hl [1, 2, 3, 4, 0] rfl) ?_
          intro Hz lz hP hD hSz ls hl
          refine k_iinc (x := l4) (k := 3) (lv' := [(4, .int (iI (l4 + 1))), (0, .ref (ad 0)), (1, .int (iI ez6)), (2, .int (iI l2))]) hx hb dX8_overlappingPairs_89 hl rfl (by decide) rfl (fun ls hl => ?_)
          refine lv_goto (tgt := 40) hx hb dX8_overlappingPairs_92 (by decide) ?_
          exact ih x_thrown a_starts a_keywordAt ez6 l2 (l4 + 1) y0 hs Hz lz hP hD hSz ls (lv_sub hl [1, 2, 3, 0] rfl) kx
  have Lz13 : ∀ (fu : Nat) (x_thrown : Int) (a_starts : (Int → Int)) (a_keywordAt : (Int → Int)) (l1 : Int) (l2 : Int) (y0 : Int), s_X8_overlappingPairs_13 fu x_streamed a_starts l1 l2 = some y0 → ∀ (Hz : Heap) (lz : List Loc), va_P D vwCl (wM cI cZ cJ ad x_thrown x_buffered x_given x_isFolding x_work x_rebuilt x_streamed x_reports x_gapFrom x_gapSize x_elements x_wholeSize x_isLaid x_takenMany a_buffer a_length a_bytes a_weight a_live a_size a_list a_moved a_planned a_stream a_reportedEnd a_reportedKeyword a_starts a_keywordAt a_element a_long1 a_head a_tail a_next a_skip a_last a_whole a_edges a_covers a_weighs a_numbers a_takes a_takenAt) Hz → va_D Az (wM cI cZ cJ ad x_thrown x_buffered x_given x_isFolding x_work x_rebuilt x_streamed x_reports x_gapFrom x_gapSize x_elements x_wholeSize x_isLaid x_takenMany a_buffer a_length a_bytes a_weight a_live a_size a_list a_moved a_planned a_stream a_reportedEnd a_reportedKeyword a_starts a_keywordAt a_element a_long1 a_head a_tail a_next a_skip a_last a_whole a_edges a_covers a_weighs a_numbers a_takes a_takenAt) → va_S Az s.heap Hz lz → ∀ ls : Array Slot, lv_has ls 6 [(0, .ref (ad 0)), (1, .int (iI l1)), (2, .int (iI l2))] → (∀ (Hz : Heap) (lz : List Loc), va_P D vwCl (wM cI cZ cJ ad x_thrown x_buffered x_given x_isFolding x_work x_rebuilt x_streamed x_reports x_gapFrom x_gapSize x_elements x_wholeSize x_isLaid x_takenMany a_buffer a_length a_bytes a_weight a_live a_size a_list a_moved a_planned a_stream a_reportedEnd a_reportedKeyword a_starts a_keywordAt a_element a_long1 a_head a_tail a_next a_skip a_last a_whole a_edges a_covers a_weighs a_numbers a_takes a_takenAt) Hz → va_D Az (wM cI cZ cJ ad x_thrown x_buffered x_given x_isFolding x_work x_rebuilt x_streamed x_reports x_gapFrom x_gapSize x_elements x_wholeSize x_isLaid x_takenMany a_buffer a_length a_bytes a_weight a_live a_size a_list a_moved a_planned a_stream a_reportedEnd a_reportedKeyword a_starts a_keywordAt a_element a_long1 a_head a_tail a_next a_skip a_last a_whole a_edges a_covers a_weighs a_numbers a_takes a_takenAt) → va_S Az s.heap Hz lz → ∀ ls : Array Slot, lv_has ls 6 [(1, .int (iI y0))] → W p l e (headSpec wsX8_overlappingPairs rm_X8_overlappingPairs).room s m args below meth c Hz lz 0 0 (MQ below (QW D vwCl (some (.int (iI r))) wz Az) args s 0 0 Az) (F0 m 101 ls [])) → W p l e (headSpec wsX8_overlappingPairs rm_X8_overlappingPairs).room s m args below meth c Hz lz 0 0 (MQ below (QW D vwCl (some (.int (iI r))) wz Az) args s 0 0 Az) (F0 m 13 ls []) := by
    intro fu
    induction fu with
    | zero => intro x_thrown a_starts a_keywordAt l1 l2 y0 hs; cases hs
    | succ fu ih =>
      intro x_thrown a_starts a_keywordAt l1 l2 y0 hs Hz lz hP hD hSz ls hl kx
      rw [s_X8_overlappingPairs_13_s] at hs
      refine lv_iload_n hx hb dX8_overlappingPairs_13 rfl (lv_at hl 2 rfl) ?_
      refine lv_aload_n hx hb dX8_overlappingPairs_14 rfl (lv_at hl 0 rfl) ?_
      refine va_get (ci := 8) (v := .int (iI x_streamed)) (C := RX8) (T := TX8) (N := 42) hx hb hts hiX8 hown hK hP 0 rfl rfl 18 (by decide) hf170 (fun _ h9 => h9) rfl dX8_overlappingPairs_15 ?_
      refine k_icmp_ge (tgt := 101) hx hb hs dX8_overlappingPairs_18 (by decide) (fun hs => ?_) (fun hs => ?_)
      · refine lv_aload_n hx hb dX8_overlappingPairs_21 rfl (lv_at hl 0 rfl) ?_
        refine lv_iload_n hx hb dX8_overlappingPairs_22 rfl (lv_at hl 2 rfl) ?_
        obtain ⟨vz3, hcz, hs⟩ := bd1_some hs
        refine k_rV (As := [.int (iI l2)]) (rest := []) (st1 := [.int (iI vz3)]) ⟨hx, hb, hml, hown, hts⟩ hK hP (c_X8_startsAt l D cI cZ cJ hcz) (cwV 1 hts gX8_overlappingPairs_X8_startsAt rfl rfl rfl (by decide +kernel) ⟨Nat.le_of_ble_eq_true rfl, Nat.le_of_ble_eq_true rfl⟩) 0 rfl rfl rfl rfl hl.1 rfl (lv_room (Nat.le_of_ble_eq_true rfl)) dX8_overlappingPairs_23 ⟨Nat.zero_le _, Nat.zero_le _⟩ rfl ?_
        refine lv_istore_n (lv' := [(3, .int (iI vz3)), (0, .ref (ad 0)), (1, .int (iI l1)), (2, .int (iI l2))]) hx hb dX8_overlappingPairs_26 rfl hl (by decide) rfl (fun ls hl => ?_)
        refine lv_iload_n hx hb dX8_overlappingPairs_27 rfl (lv_at hl 2 rfl) ?_
        refine lv_iload_n hx hb dX8_overlappingPairs_28 rfl (lv_at hl 0 rfl) ?_
        refine lv_iload_n hx hb dX8_overlappingPairs_29 rfl (lv_at hl 0 rfl) ?_
        refine k_iconst (n := 1) hx hb dX8_overlappingPairs_30 ?_
        refine k_isub hx hb dX8_overlappingPairs_31 ?_
        refine k_imul hx hb dX8_overlappingPairs_32 ?_
        refine k_iconst (n := 2) hx hb dX8_overlappingPairs_33 ?_
        refine k_idiv hx hb dX8_overlappingPairs_34 (by decide) ?_
        refine k_iadd hx hb dX8_overlappingPairs_35 ?_
        refine lv_istore_n (lv' := [(1, .int (iI (l1 + (iDiv (vz3 * (vz3 - 1)) 2)))), (3, .int (iI vz3)), (0, .ref (ad 0)), (2, .int (iI l2))]) hx hb dX8_overlappingPairs_36 rfl hl (by decide) rfl (fun ls hl => ?_)
        refine k_iconst (n := 1) hx hb dX8_overlappingPairs_37 ?_
        refine lv_istore (lv' := [(4, .int (iI 1)), (1, .int (iI (l1 + (iDiv (vz3 * (vz3 - 1)) 2)))), (3, .int (iI vz3)), (0, .ref (ad 0)), (2, .int (iI l2))]) hx hb dX8_overlappingPairs_38 hl (by decide) rfl (fun ls hl => ?_)
        obtain ⟨ez7, hq, hs⟩ := bd1_some hs
        refine Lz40 FU x_thrown a_starts a_keywordAt (l1 + (iDiv (vz3 * (vz3 - 1)) 2)) l2 1 ez7 hq Hz lz hP hD hSz ls (lv_sub hl [3, 1, 4, 0] rfl) ?_
        intro Hz lz hP hD hSz ls hl
        refine k_iinc (x := l2) (k := 2) (lv' := [(2, .int (iI (l2 + 1))), (0, .ref (ad 0)), (1, .int (iI ez7))]) hx hb dX8_overlappingPairs_95 hl rfl (by decide) rfl (fun ls hl => ?_)
        refine lv_goto (tgt := 13) hx hb dX8_overlappingPairs_98 (by decide) ?_
        exact ih x_thrown a_starts a_keywordAt ez7 (l2 + 1) y0 hs Hz lz hP hD hSz ls (lv_sub hl [1, 2, 0] rfl) kx
      · cases hs
        exact kx Hz lz hP hD hSz ls (lv_sub hl [1] rfl)
  refine (?_ : ∀ (Hz : Heap) (lz : List Loc), va_P D vwCl (wM cI cZ cJ ad x_thrown x_buffered x_given x_isFolding x_work x_rebuilt x_streamed x_reports x_gapFrom x_gapSize x_elements x_wholeSize x_isLaid x_takenMany a_buffer a_length a_bytes a_weight a_live a_size a_list a_moved a_planned a_stream a_reportedEnd a_reportedKeyword a_starts a_keywordAt a_element a_long1 a_head a_tail a_next a_skip a_last a_whole a_edges a_covers a_weighs a_numbers a_takes a_takenAt) Hz → va_D Az (wM cI cZ cJ ad x_thrown x_buffered x_given x_isFolding x_work x_rebuilt x_streamed x_reports x_gapFrom x_gapSize x_elements x_wholeSize x_isLaid x_takenMany a_buffer a_length a_bytes a_weight a_live a_size a_list a_moved a_planned a_stream a_reportedEnd a_reportedKeyword a_starts a_keywordAt a_element a_long1 a_head a_tail a_next a_skip a_last a_whole a_edges a_covers a_weighs a_numbers a_takes a_takenAt) → va_S Az s.heap Hz lz → W p l e (headSpec wsX8_overlappingPairs rm_X8_overlappingPairs).room s m args below meth c Hz lz 0 0 (MQ below (QW D vwCl (some (.int (iI r))) wz Az) args s 0 0 Az) (F0 m 0 ls [])) s.heap [] hP hD hSz
  intro Hz lz hP hD hSz
  refine lv_aload_n hx hb dX8_overlappingPairs_0 rfl (lv_at hl 0 rfl) ?_
  refine k_iconst (n := 0) hx hb dX8_overlappingPairs_1 ?_
  refine va_put (ci := 8) (v := .int (iI 0)) (ty := .int) (C := RX8) (T := TX8) (N := 42) hx hb hts hiX8 tyX8 tyX8_ok nmX8 hown hK hP hD hSz 0 rfl rfl 0 (by decide) hf1 (fun _ h9 => h9) rfl (by decide +kernel) rfl rfl (Nat.le_of_ble_eq_true rfl) dX8_overlappingPairs_2 (fun Hz lz hP hD hSz => ?_)
  have hP : va_P D vwCl (wM cI cZ cJ ad 0 x_buffered x_given x_isFolding x_work x_rebuilt x_streamed x_reports x_gapFrom x_gapSize x_elements x_wholeSize x_isLaid x_takenMany a_buffer a_length a_bytes a_weight a_live a_size a_list a_moved a_planned a_stream a_reportedEnd a_reportedKeyword a_starts a_keywordAt a_element a_long1 a_head a_tail a_next a_skip a_last a_whole a_edges a_covers a_weighs a_numbers a_takes a_takenAt) Hz := hP
  have hD : va_D Az (wM cI cZ cJ ad 0 x_buffered x_given x_isFolding x_work x_rebuilt x_streamed x_reports x_gapFrom x_gapSize x_elements x_wholeSize x_isLaid x_takenMany a_buffer a_length a_bytes a_weight a_live a_size a_list a_moved a_planned a_stream a_reportedEnd a_reportedKeyword a_starts a_keywordAt a_element a_long1 a_head a_tail a_next a_skip a_last a_whole a_edges a_covers a_weighs a_numbers a_takes a_takenAt) := hD
  refine lv_aload_n hx hb dX8_overlappingPairs_5 rfl (lv_at hl 0 rfl) ?_
  obtain ⟨vz1, vz2, hcz, hs⟩ := bd2_some hs
  refine k_wVs (As := []) (rest := []) (st1 := []) (w1 := (wM cI cZ cJ ad 0 x_buffered x_given x_isFolding x_work x_rebuilt x_streamed x_reports x_gapFrom x_gapSize x_elements x_wholeSize x_isLaid x_takenMany a_buffer a_length a_bytes a_weight a_live a_size a_list a_moved a_planned a_stream a_reportedEnd a_reportedKeyword vz1 vz2 a_element a_long1 a_head a_tail a_next a_skip a_last a_whole a_edges a_covers a_weighs a_numbers a_takes a_takenAt)) ⟨hx, hb, hml, hown, hts⟩ hK hP hD hSz hA (c_X8_laysMatches l D cI cZ cJ hcz) (cwV 0 hts gX8_overlappingPairs_X8_laysMatches rfl rfl rfl (by decide +kernel) ⟨Nat.le_of_ble_eq_true rfl, Nat.le_of_ble_eq_true rfl⟩) 0 rfl rfl rfl rfl rfl hl.1 rfl (lv_room (Nat.le_of_ble_eq_true rfl)) dX8_overlappingPairs_6 ⟨Nat.zero_le _, Nat.zero_le _⟩ rfl (fun Hz lz hP hD hSz => ?_)
  have hP : va_P D vwCl (wM cI cZ cJ ad 0 x_buffered x_given x_isFolding x_work x_rebuilt x_streamed x_reports x_gapFrom x_gapSize x_elements x_wholeSize x_isLaid x_takenMany a_buffer a_length a_bytes a_weight a_live a_size a_list a_moved a_planned a_stream a_reportedEnd a_reportedKeyword vz1 vz2 a_element a_long1 a_head a_tail a_next a_skip a_last a_whole a_edges a_covers a_weighs a_numbers a_takes a_takenAt) Hz := hP
  have hD : va_D Az (wM cI cZ cJ ad 0 x_buffered x_given x_isFolding x_work x_rebuilt x_streamed x_reports x_gapFrom x_gapSize x_elements x_wholeSize x_isLaid x_takenMany a_buffer a_length a_bytes a_weight a_live a_size a_list a_moved a_planned a_stream a_reportedEnd a_reportedKeyword vz1 vz2 a_element a_long1 a_head a_tail a_next a_skip a_last a_whole a_edges a_covers a_weighs a_numbers a_takes a_takenAt) := hD
  refine k_iconst (n := 0) hx hb dX8_overlappingPairs_9 ?_
  refine lv_istore_n (lv' := [(1, .int (iI 0)), (0, .ref (ad 0))]) hx hb dX8_overlappingPairs_10 rfl hl (by decide) rfl (fun ls hl => ?_)
  refine k_iconst (n := 0) hx hb dX8_overlappingPairs_11 ?_
  refine lv_istore_n (lv' := [(2, .int (iI 0)), (1, .int (iI 0)), (0, .ref (ad 0))]) hx hb dX8_overlappingPairs_12 rfl hl (by decide) rfl (fun ls hl => ?_)
  obtain ⟨ez8, hq, hs⟩ := bd1_some hs
  refine Lz13 FU 0 vz1 vz2 0 0 ez8 hq Hz lz hP hD hSz ls (lv_sub hl [2, 1, 0] rfl) ?_
  intro Hz lz hP hD hSz ls hl
  refine lv_iload_n hx hb dX8_overlappingPairs_101 rfl (lv_at hl 0 rfl) ?_
  cases hs
  exact k_iret_w hx hb hr hlk (by rw [hw1]; exact hP) hSz dX8_overlappingPairs_102 rfl
/-! X8_maximumDepth -/
set_option maxHeartbeats 4000000 in
set_option maxRecDepth 100000 in
theorem c_X8_maximumDepth (l : Launch) (D : va_G) (cI cZ cJ : ClassId) {ad : Nat → Nat} {x_thrown : Int} {x_buffered : Int} {x_given : Int} {x_isFolding : Int} {x_work : Int} {x_rebuilt : Int} {x_streamed : Int} {x_reports : Int} {x_gapFrom : Int} {x_gapSize : Int} {x_elements : Int} {x_wholeSize : Int} {x_isLaid : Int} {x_takenMany : Int} {a_buffer : (Int → Int)} {a_length : (Int → Int)} {a_bytes : (Int → Int)} {a_weight : (Int → Int)} {a_live : (Int → Int)} {a_size : (Int → Int)} {a_list : (Int → Int)} {a_moved : (Int → Int)} {a_planned : (Int → Int)} {a_stream : (Int → Int)} {a_reportedEnd : (Int → Int)} {a_reportedKeyword : (Int → Int)} {a_starts : (Int → Int)} {a_keywordAt : (Int → Int)} {a_element : (Int → Int)} {a_long1 : (Int → Int)} {a_head : (Int → Int)} {a_tail : (Int → Int)} {a_next : (Int → Int)} {a_skip : (Int → Int)} {a_last : (Int → Int)} {a_whole : (Int → Int)} {a_edges : (Int → Int)} {a_covers : (Int → Int)} {a_weighs : (Int → Int)} {a_numbers : (Int → Int)} {a_takes : (Int → Int)} {a_takenAt : (Int → Int)} {r : Int} {y_x_thrown : Int} {y_a_starts : (Int → Int)} {y_a_keywordAt : (Int → Int)} {sz : Nat} (hs : s_X8_maximumDepth x_thrown x_given x_isFolding x_streamed a_length a_bytes a_live a_stream a_starts a_keywordAt = some (r, y_x_thrown, y_a_starts, y_a_keywordAt)) : Met l yX8_maximumDepth wsX8_maximumDepth rm_X8_maximumDepth (PW D vwCl [(cI, .int), (cZ, .boolean), (cJ, .long)] [.ref (ad 0)] (wM cI cZ cJ ad x_thrown x_buffered x_given x_isFolding x_work x_rebuilt x_streamed x_reports x_gapFrom x_gapSize x_elements x_wholeSize x_isLaid x_takenMany a_buffer a_length a_bytes a_weight a_live a_size a_list a_moved a_planned a_stream a_reportedEnd a_reportedKeyword a_starts a_keywordAt a_element a_long1 a_head a_tail a_next a_skip a_last a_whole a_edges a_covers a_weighs a_numbers a_takes a_takenAt) sz) (QW D vwCl (some (.int (iI r))) (wM cI cZ cJ ad y_x_thrown x_buffered x_given x_isFolding x_work x_rebuilt x_streamed x_reports x_gapFrom x_gapSize x_elements x_wholeSize x_isLaid x_takenMany a_buffer a_length a_bytes a_weight a_live a_size a_list a_moved a_planned a_stream a_reportedEnd a_reportedKeyword y_a_starts y_a_keywordAt a_element a_long1 a_head a_tail a_next a_skip a_last a_whole a_edges a_covers a_weighs a_numbers a_takes a_takenAt) (va_A (wM cI cZ cJ ad x_thrown x_buffered x_given x_isFolding x_work x_rebuilt x_streamed x_reports x_gapFrom x_gapSize x_elements x_wholeSize x_isLaid x_takenMany a_buffer a_length a_bytes a_weight a_live a_size a_list a_moved a_planned a_stream a_reportedEnd a_reportedKeyword a_starts a_keywordAt a_element a_long1 a_head a_tail a_next a_skip a_last a_whole a_edges a_covers a_weighs a_numbers a_takes a_takenAt) sz)) 0 0 (va_A (wM cI cZ cJ ad x_thrown x_buffered x_given x_isFolding x_work x_rebuilt x_streamed x_reports x_gapFrom x_gapSize x_elements x_wholeSize x_isLaid x_takenMany a_buffer a_length a_bytes a_weight a_live a_size a_list a_moved a_planned a_stream a_reportedEnd a_reportedKeyword a_starts a_keywordAt a_element a_long1 a_head a_tail a_next a_skip a_last a_whole a_edges a_covers a_weighs a_numbers a_takes a_takenAt) sz) := by
  refine Met.ofW (cc := cX8_maximumDepth) (maxL := 6) (ret := (some .int)) (by decide) rfl ?_
  intro p e s m args below meth c s₁ B hml hv
  obtain ⟨hav, hsz, hP, hK, hD0⟩ := hv
  have hx := B.exec
  have hb := B.bytes
  have hr := B.returns
  have hts := atoms_spec (ws := wsX8_maximumDepth) B.pre
  have hown : s.vm.findClass RX8 = some m.cls := findClass_of_methodNamed B.named
  have hlk := B.notSynchronized
  have hf1 : (Cond.fieldLink RX8 1 "KeywordMatcherModel" "thrown" "I").before args s = true := hts _ (List.mem_of_getElem? (i := 1) rfl)
  have hiX8 : ∀ w ∈ wsX80, w ∈ wsX8_maximumDepth := fun w h => List.mem_cons_of_mem _ (List.mem_append_right _ h)
  have hf170 : (Cond.fieldLink RX8 170 "KeywordMatcherModel" "streamed" "I").before args s = true := hts _ (List.mem_of_getElem? (i := 2) rfl)
  subst hsz
  have hD := hD0.self (sz := s.heap.size)
  generalize hAe : va_A (wM cI cZ cJ ad x_thrown x_buffered x_given x_isFolding x_work x_rebuilt x_streamed x_reports x_gapFrom x_gapSize x_elements x_wholeSize x_isLaid x_takenMany a_buffer a_length a_bytes a_weight a_live a_size a_list a_moved a_planned a_stream a_reportedEnd a_reportedKeyword a_starts a_keywordAt a_element a_long1 a_head a_tail a_next a_skip a_last a_whole a_edges a_covers a_weighs a_numbers a_takes a_takenAt) s.heap.size = Az at hD ⊢
  have hA : ∀ q : Nat, s.heap.size ≤ q → Az q := fun q h => by rw [← hAe]; exact Or.inr h
  clear hAe
  have hSz : va_S Az s.heap s.heap [] := va_S.rf
  obtain ⟨wz, hw1⟩ : ∃ z : va_W, z = (wM cI cZ cJ ad y_x_thrown x_buffered x_given x_isFolding x_work x_rebuilt x_streamed x_reports x_gapFrom x_gapSize x_elements x_wholeSize x_isLaid x_takenMany a_buffer a_length a_bytes a_weight a_live a_size a_list a_moved a_planned a_stream a_reportedEnd a_reportedKeyword y_a_starts y_a_keywordAt a_element a_long1 a_head a_tail a_next a_skip a_last a_whole a_edges a_covers a_weighs a_numbers a_takes a_takenAt) := ⟨_, rfl⟩
  rw [← hw1]
  have hl := lv_entry ([.ref (ad 0)]) (n := 6) (Nat.le_of_ble_eq_true rfl)
  rw [show entryFrame m args 6 = entryFrame m ([.ref (ad 0)] : List Value).toArray 6 from by rw [hav], lg_entry_eq]
  generalize (lg_sl ([.ref (ad 0)]) ++ List.replicate (6 - (lg_sl ([.ref (ad 0)])).length) Slot.unset).toArray = ls at hl ⊢
  have hl : lv_has ls 6 [(0, .ref (ad 0))] := hl
  unfold s_X8_maximumDepth at hs
  have Lz55 : ∀ (fu : Nat) (x_thrown : Int) (a_starts : (Int → Int)) (a_keywordAt : (Int → Int)) (l1 : Int) (l2 : Int) (l3 : Int) (l4 : Int) (l5 : Int) (y0 : Int), s_X8_maximumDepth_55 fu a_starts l1 l2 l3 l4 l5 = some y0 → ∀ (Hz : Heap) (lz : List Loc), va_P D vwCl (wM cI cZ cJ ad x_thrown x_buffered x_given x_isFolding x_work x_rebuilt x_streamed x_reports x_gapFrom x_gapSize x_elements x_wholeSize x_isLaid x_takenMany a_buffer a_length a_bytes a_weight a_live a_size a_list a_moved a_planned a_stream a_reportedEnd a_reportedKeyword a_starts a_keywordAt a_element a_long1 a_head a_tail a_next a_skip a_last a_whole a_edges a_covers a_weighs a_numbers a_takes a_takenAt) Hz → va_D Az (wM cI cZ cJ ad x_thrown x_buffered x_given x_isFolding x_work x_rebuilt x_streamed x_reports x_gapFrom x_gapSize x_elements x_wholeSize x_isLaid x_takenMany a_buffer a_length a_bytes a_weight a_live a_size a_list a_moved a_planned a_stream a_reportedEnd a_reportedKeyword a_starts a_keywordAt a_element a_long1 a_head a_tail a_next a_skip a_last a_whole a_edges a_covers a_weighs a_numbers a_takes a_takenAt) → va_S Az s.heap Hz lz → ∀ ls : Array Slot, lv_has ls 6 [(0, .ref (ad 0)), (1, .int (iI l1)), (2, .int (iI l2)), (3, .int (iI l3)), (4, .int (iI l4)), (5, .int (iI l5))] → (∀ (Hz : Heap) (lz : List Loc), va_P D vwCl (wM cI cZ cJ ad x_thrown x_buffered x_given x_isFolding x_work x_rebuilt x_streamed x_reports x_gapFrom x_gapSize x_elements x_wholeSize x_isLaid x_takenMany a_buffer a_length a_bytes a_weight a_live a_size a_list a_moved a_planned a_stream a_reportedEnd a_reportedKeyword a_starts a_keywordAt a_element a_long1 a_head a_tail a_next a_skip a_last a_whole a_edges a_covers a_weighs a_numbers a_takes a_takenAt) Hz → va_D Az (wM cI cZ cJ ad x_thrown x_buffered x_given x_isFolding x_work x_rebuilt x_streamed x_reports x_gapFrom x_gapSize x_elements x_wholeSize x_isLaid x_takenMany a_buffer a_length a_bytes a_weight a_live a_size a_list a_moved a_planned a_stream a_reportedEnd a_reportedKeyword a_starts a_keywordAt a_element a_long1 a_head a_tail a_next a_skip a_last a_whole a_edges a_covers a_weighs a_numbers a_takes a_takenAt) → va_S Az s.heap Hz lz → ∀ ls : Array Slot, lv_has ls 6 [(0, .ref (ad 0)), (1, .int (iI l1)), (2, .int (iI l2)), (3, .int (iI y0)), (4, .int (iI l4))] → W p l e (headSpec wsX8_maximumDepth rm_X8_maximumDepth).room s m args below meth c Hz lz 0 0 (MQ below (QW D vwCl (some (.int (iI r))) wz Az) args s 0 0 Az) (F0 m 87 ls [])) → W p l e (headSpec wsX8_maximumDepth rm_X8_maximumDepth).room s m args below meth c Hz lz 0 0 (MQ below (QW D vwCl (some (.int (iI r))) wz Az) args s 0 0 Az) (F0 m 55 ls []) := by
    intro fu
    induction fu with
    | zero => intro x_thrown a_starts a_keywordAt l1 l2 l3 l4 l5 y0 hs; cases hs
    | succ fu ih =>
      intro x_thrown a_starts a_keywordAt l1 l2 l3 l4 l5 y0 hs Hz lz hP hD hSz ls hl kx
      rw [s_X8_maximumDepth_55_s] at hs
      refine lv_iload hx hb dX8_maximumDepth_55 (lv_at hl 5 rfl) ?_
      refine k_bipush (n := 16) hx hb (by decide) dX8_maximumDepth_57 ?_
      refine k_icmp_gt (tgt := 87) hx hb hs dX8_maximumDepth_59 (by decide) (fun hs => ?_) (fun hs => ?_)
      · cases hs
        exact kx Hz lz hP hD hSz ls (lv_sub hl [0, 1, 2, 3, 4] rfl)
      · refine lv_iload_n hx hb dX8_maximumDepth_62 rfl (lv_at hl 3 rfl) ?_
        refine lv_aload_n hx hb dX8_maximumDepth_63 rfl (lv_at hl 0 rfl) ?_
        refine lv_iload hx hb dX8_maximumDepth_64 (lv_at hl 4 rfl) ?_
        refine lv_iload hx hb dX8_maximumDepth_66 (lv_at hl 5 rfl) ?_
        obtain ⟨vz3, hcz, hs⟩ := bd1_some hs
        refine k_rV (As := [.int (iI l4), .int (iI l5)]) (rest := [.int (iI l3)]) (st1 := [.int (iI vz3), .int (iI l3)]) ⟨hx, hb, hml, hown, hts⟩ hK hP (c_X8_hasAt l D cI cZ cJ hcz) (cwV 2 hts gX8_maximumDepth_X8_hasAt rfl rfl rfl (by decide +kernel) ⟨Nat.le_of_ble_eq_true rfl, Nat.le_of_ble_eq_true rfl⟩) 0 rfl rfl rfl rfl hl.1 rfl (lv_room (Nat.le_of_ble_eq_true rfl)) dX8_maximumDepth_68 ⟨Nat.zero_le _, Nat.zero_le _⟩ rfl ?_
        refine k_if_eq (tgt := 78) hx hb hs dX8_maximumDepth_71 (by decide) (fun hs => ?_) (fun hs => ?_)
        · refine k_iconst (n := 0) hx hb dX8_maximumDepth_78 ?_
          refine k_iadd hx hb dX8_maximumDepth_79 ?_
          refine lv_istore_n (lv' := [(3, .int (iI (l3 + 0))), (0, .ref (ad 0)), (1, .int (iI l1)), (2, .int (iI l2)), (4, .int (iI l4)), (5, .int (iI l5))]) hx hb dX8_maximumDepth_80 rfl hl (by decide) rfl (fun ls hl => ?_)
          refine k_iinc (x := l5) (k := 5) (lv' := [(5, .int (iI (l5 + 1))), (3, .int (iI (l3 + 0))), (0, .ref (ad 0)), (1, .int (iI l1)), (2, .int (iI l2)), (4, .int (iI l4))]) hx hb dX8_maximumDepth_81 hl rfl (by decide) rfl (fun ls hl => ?_)
          refine lv_goto (tgt := 55) hx hb dX8_maximumDepth_84 (by decide) ?_
          exact ih x_thrown a_starts a_keywordAt l1 l2 (l3 + 0) l4 (l5 + 1) y0 hs Hz lz hP hD hSz ls (lv_sub hl [2, 3, 4, 1, 5, 0] rfl) kx
        · refine k_iconst (n := 1) hx hb dX8_maximumDepth_74 ?_
          refine lv_goto (tgt := 79) hx hb dX8_maximumDepth_75 (by decide) ?_
          refine k_iadd hx hb dX8_maximumDepth_79 ?_
          refine lv_istore_n (lv' := [(3, .int (iI (l3 + 1))), (0, .ref (ad 0)), (1, .int (iI l1)), (2, .int (iI l2)), (4, .int (iI l4)), (5, .int (iI l5))]) hx hb dX8_maximumDepth_80 rfl hl (by decide) rfl (fun ls hl => ?_)
          refine k_iinc (x := l5) (k := 5) (lv' := [(5, .int (iI (l5 + 1))), (3, .int (iI (l3 + 1))), (0, .ref (ad 0)), (1, .int (iI l1)), (2, .int (iI l2)), (4, .int (iI l4))]) hx hb dX8_maximumDepth_81 hl rfl (by decide) rfl (fun ls hl => ?_)
          refine lv_goto (tgt := 55) hx hb dX8_maximumDepth_84 (by decide) ?_
          exact ih x_thrown a_starts a_keywordAt l1 l2 (l3 + 1) l4 (l5 + 1) y0 hs Hz lz hP hD hSz ls (lv_sub hl [2, 3, 4, 1, 5, 0] rfl) kx
  have Lz41 : ∀ (fu : Nat) (x_thrown : Int) (a_starts : (Int → Int)) (a_keywordAt : (Int → Int)) (l1 : Int) (l2 : Int) (l3 : Int) (l4 : Int) (y0 : Int), s_X8_maximumDepth_41 fu a_starts l1 l2 l3 l4 = some y0 → ∀ (Hz : Heap) (lz : List Loc), va_P D vwCl (wM cI cZ cJ ad x_thrown x_buffered x_given x_isFolding x_work x_rebuilt x_streamed x_reports x_gapFrom x_gapSize x_elements x_wholeSize x_isLaid x_takenMany a_buffer a_length a_bytes a_weight a_live a_size a_list a_moved a_planned a_stream a_reportedEnd a_reportedKeyword a_starts a_keywordAt a_element a_long1 a_head a_tail a_next a_skip a_last a_whole a_edges a_covers a_weighs a_numbers a_takes a_takenAt) Hz → va_D Az (wM cI cZ cJ ad x_thrown x_buffered x_given x_isFolding x_work x_rebuilt x_streamed x_reports x_gapFrom x_gapSize x_elements x_wholeSize x_isLaid x_takenMany a_buffer a_length a_bytes a_weight a_live a_size a_list a_moved a_planned a_stream a_reportedEnd a_reportedKeyword a_starts a_keywordAt a_element a_long1 a_head a_tail a_next a_skip a_last a_whole a_edges a_covers a_weighs a_numbers a_takes a_takenAt) → va_S Az s.heap Hz lz → ∀ ls : Array Slot, lv_has ls 6 [(0, .ref (ad 0)), (1, .int (iI l1)), (2, .int (iI l2)), (3, .int (iI l3)), (4, .int (iI l4))] → (∀ (Hz : Heap) (lz : List Loc), va_P D vwCl (wM cI cZ cJ ad x_thrown x_buffered x_given x_isFolding x_work x_rebuilt x_streamed x_reports x_gapFrom x_gapSize x_elements x_wholeSize x_isLaid x_takenMany a_buffer a_length a_bytes a_weight a_live a_size a_list a_moved a_planned a_stream a_reportedEnd a_reportedKeyword a_starts a_keywordAt a_element a_long1 a_head a_tail a_next a_skip a_last a_whole a_edges a_covers a_weighs a_numbers a_takes a_takenAt) Hz → va_D Az (wM cI cZ cJ ad x_thrown x_buffered x_given x_isFolding x_work x_rebuilt x_streamed x_reports x_gapFrom x_gapSize x_elements x_wholeSize x_isLaid x_takenMany a_buffer a_length a_bytes a_weight a_live a_size a_list a_moved a_planned a_stream a_reportedEnd a_reportedKeyword a_starts a_keywordAt a_element a_long1 a_head a_tail a_next a_skip a_last a_whole a_edges a_covers a_weighs a_numbers a_takes a_takenAt) → va_S Az s.heap Hz lz → ∀ ls : Array Slot, lv_has ls 6 [(0, .ref (ad 0)), (1, .int (iI l1)), (2, .int (iI l2)), (3, .int (iI y0))] → W p l e (headSpec wsX8_maximumDepth rm_X8_maximumDepth).room s m args below meth c Hz lz 0 0 (MQ below (QW D vwCl (some (.int (iI r))) wz Az) args s 0 0 Az) (F0 m 93 ls [])) → W p l e (headSpec wsX8_maximumDepth rm_X8_maximumDepth).room s m args below meth c Hz lz 0 0 (MQ below (QW D vwCl (some (.int (iI r))) wz Az) args s 0 0 Az) (F0 m 41 ls []) := by
    intro fu
    induction fu with
    | zero => intro x_thrown a_starts a_keywordAt l1 l2 l3 l4 y0 hs; cases hs
    | succ fu ih =>
      intro x_thrown a_starts a_keywordAt l1 l2 l3 l4 y0 hs Hz lz hP hD hSz ls hl kx
      rw [s_X8_maximumDepth_41_s] at hs
      refine lv_iload hx hb dX8_maximumDepth_41 (lv_at hl 4 rfl) ?_
      refine lv_iload_n hx hb dX8_maximumDepth_43 rfl (lv_at hl 2 rfl) ?_
      refine k_icmp_gt (tgt := 93) hx hb hs dX8_maximumDepth_44 (by decide) (fun hs => ?_) (fun hs => ?_)
      · cases hs
        exact kx Hz lz hP hD hSz ls (lv_sub hl [0, 1, 2, 3] rfl)
      · refine lv_iload_n hx hb dX8_maximumDepth_47 rfl (lv_at hl 2 rfl) ?_
        refine lv_iload hx hb dX8_maximumDepth_48 (lv_at hl 4 rfl) ?_
        refine k_isub hx hb dX8_maximumDepth_50 ?_
        refine k_iconst (n := 1) hx hb dX8_maximumDepth_51 ?_
        refine k_iadd hx hb dX8_maximumDepth_52 ?_
        refine lv_istore (lv' := [(5, .int (iI ((l2 - l4) + 1))), (0, .ref (ad 0)), (1, .int (iI l1)), (2, .int (iI l2)), (3, .int (iI l3)), (4, .int (iI l4))]) hx hb dX8_maximumDepth_53 hl (by decide) rfl (fun ls hl => ?_)
        obtain ⟨ez4, hq, hs⟩ := bd1_some hs
        refine Lz55 FU x_thrown a_starts a_keywordAt l1 l2 l3 l4 ((l2 - l4) + 1) ez4 hq Hz lz hP hD hSz ls (lv_sub hl [1, 2, 3, 4, 5, 0] rfl) ?_
        intro Hz lz hP hD hSz ls hl
        refine k_iinc (x := l4) (k := 4) (lv' := [(4, .int (iI (l4 + 1))), (0, .ref (ad 0)), (1, .int (iI l1)), (2, .int (iI l2)), (3, .int (iI ez4))]) hx hb dX8_maximumDepth_87 hl rfl (by decide) rfl (fun ls hl => ?_)
        refine lv_goto (tgt := 41) hx hb dX8_maximumDepth_90 (by decide) ?_
        exact ih x_thrown a_starts a_keywordAt l1 l2 ez4 (l4 + 1) y0 hs Hz lz hP hD hSz ls (lv_sub hl [1, 2, 3, 4, 0] rfl) kx
  have Lz13 : ∀ (fu : Nat) (x_thrown : Int) (a_starts : (Int → Int)) (a_keywordAt : (Int → Int)) (l1 : Int) (l2 : Int) (y0 : Int), s_X8_maximumDepth_13 fu x_streamed a_starts l1 l2 = some y0 → ∀ (Hz : Heap) (lz : List Loc), va_P D vwCl (wM cI cZ cJ ad x_thrown x_buffered x_given x_isFolding x_work x_rebuilt x_streamed x_reports x_gapFrom x_gapSize x_elements x_wholeSize x_isLaid x_takenMany a_buffer a_length a_bytes a_weight a_live a_size a_list a_moved a_planned a_stream a_reportedEnd a_reportedKeyword a_starts a_keywordAt a_element a_long1 a_head a_tail a_next a_skip a_last a_whole a_edges a_covers a_weighs a_numbers a_takes a_takenAt) Hz → va_D Az (wM cI cZ cJ ad x_thrown x_buffered x_given x_isFolding x_work x_rebuilt x_streamed x_reports x_gapFrom x_gapSize x_elements x_wholeSize x_isLaid x_takenMany a_buffer a_length a_bytes a_weight a_live a_size a_list a_moved a_planned a_stream a_reportedEnd a_reportedKeyword a_starts a_keywordAt a_element a_long1 a_head a_tail a_next a_skip a_last a_whole a_edges a_covers a_weighs a_numbers a_takes a_takenAt) → va_S Az s.heap Hz lz → ∀ ls : Array Slot, lv_has ls 6 [(0, .ref (ad 0)), (1, .int (iI l1)), (2, .int (iI l2))] → (∀ (Hz : Heap) (lz : List Loc), va_P D vwCl (wM cI cZ cJ ad x_thrown x_buffered x_given x_isFolding x_work x_rebuilt x_streamed x_reports x_gapFrom x_gapSize x_elements x_wholeSize x_isLaid x_takenMany a_buffer a_length a_bytes a_weight a_live a_size a_list a_moved a_planned a_stream a_reportedEnd a_reportedKeyword a_starts a_keywordAt a_element a_long1 a_head a_tail a_next a_skip a_last a_whole a_edges a_covers a_weighs a_numbers a_takes a_takenAt) Hz → va_D Az (wM cI cZ cJ ad x_thrown x_buffered x_given x_isFolding x_work x_rebuilt x_streamed x_reports x_gapFrom x_gapSize x_elements x_wholeSize x_isLaid x_takenMany a_buffer a_length a_bytes a_weight a_live a_size a_list a_moved a_planned a_stream a_reportedEnd a_reportedKeyword a_starts a_keywordAt a_element a_long1 a_head a_tail a_next a_skip a_last a_whole a_edges a_covers a_weighs a_numbers a_takes a_takenAt) → va_S Az s.heap Hz lz → ∀ ls : Array Slot, lv_has ls 6 [(1, .int (iI y0))] → W p l e (headSpec wsX8_maximumDepth rm_X8_maximumDepth).room s m args below meth c Hz lz 0 0 (MQ below (QW D vwCl (some (.int (iI r))) wz Az) args s 0 0 Az) (F0 m 110 ls [])) → W p l e (headSpec wsX8_maximumDepth rm_X8_maximumDepth).room s m args below meth c Hz lz 0 0 (MQ below (QW D vwCl (some (.int (iI r))) wz Az) args s 0 0 Az) (F0 m 13 ls []) := by
    intro fu
    induction fu with
    | zero => intro x_thrown a_starts a_keywordAt l1 l2 y0 hs; cases hs
    | succ fu ih =>
      intro x_thrown a_starts a_keywordAt l1 l2 y0 hs Hz lz hP hD hSz ls hl kx
      rw [s_X8_maximumDepth_13_s] at hs
      refine lv_iload_n hx hb dX8_maximumDepth_13 rfl (lv_at hl 2 rfl) ?_
      refine lv_aload_n hx hb dX8_maximumDepth_14 rfl (lv_at hl 0 rfl) ?_
      refine va_get (ci := 8) (v := .int (iI x_streamed)) (C := RX8) (T := TX8) (N := 42) hx hb hts hiX8 hown hK hP 0 rfl rfl 18 (by decide) hf170 (fun _ h9 => h9) rfl dX8_maximumDepth_15 ?_
      refine k_icmp_ge (tgt := 110) hx hb hs dX8_maximumDepth_18 (by decide) (fun hs => ?_) (fun hs => ?_)
      · refine k_iconst (n := 0) hx hb dX8_maximumDepth_21 ?_
        refine lv_istore_n (lv' := [(3, .int (iI 0)), (0, .ref (ad 0)), (1, .int (iI l1)), (2, .int (iI l2))]) hx hb dX8_maximumDepth_22 rfl hl (by decide) rfl (fun ls hl => ?_)
        refine lv_iload_n hx hb dX8_maximumDepth_23 rfl (lv_at hl 3 rfl) ?_
        refine k_bipush (n := 16) hx hb (by decide) dX8_maximumDepth_24 ?_
        refine k_icmp_ge (tgt := 33) hx hb hs dX8_maximumDepth_26 (by decide) (fun hs => ?_) (fun hs => ?_)
        · refine k_iconst (n := 0) hx hb dX8_maximumDepth_29 ?_
          refine lv_goto (tgt := 39) hx hb dX8_maximumDepth_30 (by decide) ?_
          refine lv_istore (lv' := [(4, .int (iI 0)), (3, .int (iI 0)), (0, .ref (ad 0)), (1, .int (iI l1)), (2, .int (iI l2))]) hx hb dX8_maximumDepth_39 hl (by decide) rfl (fun ls hl => ?_)
          obtain ⟨ez5, hq, hs⟩ := bd1_some hs
          refine Lz41 FU x_thrown a_starts a_keywordAt l1 l2 0 0 ez5 hq Hz lz hP hD hSz ls (lv_sub hl [2, 3, 4, 1, 0] rfl) ?_
          intro Hz lz hP hD hSz ls hl
          refine lv_iload_n hx hb dX8_maximumDepth_93 rfl (lv_at hl 3 rfl) ?_
          refine lv_iload_n hx hb dX8_maximumDepth_94 rfl (lv_at hl 1 rfl) ?_
          refine k_icmp_le (tgt := 102) hx hb hs dX8_maximumDepth_95 (by decide) (fun hs => ?_) (fun hs => ?_)
          · refine lv_iload_n hx hb dX8_maximumDepth_98 rfl (lv_at hl 3 rfl) ?_
            refine lv_goto (tgt := 103) hx hb dX8_maximumDepth_99 (by decide) ?_
            refine lv_istore_n (lv' := [(1, .int (iI ez5)), (0, .ref (ad 0)), (2, .int (iI l2)), (3, .int (iI ez5))]) hx hb dX8_maximumDepth_103 rfl hl (by decide) rfl (fun ls hl => ?_)
            refine k_iinc (x := l2) (k := 2) (lv' := [(2, .int (iI (l2 + 1))), (1, .int (iI ez5)), (0, .ref (ad 0)), (3, .int (iI ez5))]) hx hb dX8_maximumDepth_104 hl rfl (by decide) rfl (fun ls hl => ?_)
            refine lv_goto (tgt := 13) hx hb dX8_maximumDepth_107 (by decide) ?_
            exact ih x_thrown a_starts a_keywordAt ez5 (l2 + 1) y0 hs Hz lz hP hD hSz ls (lv_sub hl [2, 1, 0] rfl) kx
          · refine lv_iload_n hx hb dX8_maximumDepth_102 rfl (lv_at hl 1 rfl) ?_
            refine lv_istore_n (lv' := [(1, .int (iI l1)), (0, .ref (ad 0)), (2, .int (iI l2)), (3, .int (iI ez5))]) hx hb dX8_maximumDepth_103 rfl hl (by decide) rfl (fun ls hl => ?_)
            refine k_iinc (x := l2) (k := 2) (lv' := [(2, .int (iI (l2 + 1))), (1, .int (iI l1)), (0, .ref (ad 0)), (3, .int (iI ez5))]) hx hb dX8_maximumDepth_104 hl rfl (by decide) rfl (fun ls hl => ?_)
            refine lv_goto (tgt := 13) hx hb dX8_maximumDepth_107 (by decide) ?_
            exact ih x_thrown a_starts a_keywordAt l1 (l2 + 1) y0 hs Hz lz hP hD hSz ls (lv_sub hl [2, 1, 0] rfl) kx
        · refine lv_iload_n hx hb dX8_maximumDepth_33 rfl (lv_at hl 3 rfl) ?_
          refine k_bipush (n := 16) hx hb (by decide) dX8_maximumDepth_34 ?_
          refine k_isub hx hb dX8_maximumDepth_36 ?_
          refine k_iconst (n := 1) hx hb dX8_maximumDepth_37 ?_
          refine k_iadd hx hb dX8_maximumDepth_38 ?_
          refine lv_istore (lv' := [(4, .int (iI ((l2 - 16) + 1))), (3, .int (iI 0)), (0, .ref (ad 0)), (1, .int (iI l1)), (2, .int (iI l2))]) hx hb dX8_maximumDepth_39 hl (by decide) rfl (fun ls hl => ?_)
          obtain ⟨ez6, hq, hs⟩ := bd1_some hs
          refine Lz41 FU x_thrown a_starts a_keywordAt l1 l2 0 ((l2 - 16) + 1) ez6 hq Hz lz hP hD hSz ls (lv_sub hl [2, 3, 4, 1, 0] rfl) ?_
          intro Hz lz hP hD hSz ls hl
          refine lv_iload_n hx hb dX8_maximumDepth_93 rfl (lv_at hl 3 rfl) ?_
          refine lv_iload_n hx hb dX8_maximumDepth_94 rfl (lv_at hl 1 rfl) ?_
          refine k_icmp_le (tgt := 102) hx hb hs dX8_maximumDepth_95 (by decide) (fun hs => ?_) (fun hs => ?_)
          · refine lv_iload_n hx hb dX8_maximumDepth_98 rfl (lv_at hl 3 rfl) ?_
            refine lv_goto (tgt := 103) hx hb dX8_maximumDepth_99 (by decide) ?_
            refine lv_istore_n (lv' := [(1, .int (iI ez6)), (0, .ref (ad 0)), (2, .int (iI l2)), (3, .int (iI ez6))]) hx hb dX8_maximumDepth_103 rfl hl (by decide) rfl (fun ls hl => ?_)
            refine k_iinc (x := l2) (k := 2) (lv' := [(2, .int (iI (l2 + 1))), (1, .int (iI ez6)), (0, .ref (ad 0)), (3, .int (iI ez6))]) hx hb dX8_maximumDepth_104 hl rfl (by decide) rfl (fun ls hl => ?_)
            refine lv_goto (tgt := 13) hx hb dX8_maximumDepth_107 (by decide) ?_
            exact ih x_thrown a_starts a_keywordAt ez6 (l2 + 1) y0 hs Hz lz hP hD hSz ls (lv_sub hl [2, 1, 0] rfl) kx
          · refine lv_iload_n hx hb dX8_maximumDepth_102 rfl (lv_at hl 1 rfl) ?_
            refine lv_istore_n (lv' := [(1, .int (iI l1)), (0, .ref (ad 0)), (2, .int (iI l2)), (3, .int (iI ez6))]) hx hb dX8_maximumDepth_103 rfl hl (by decide) rfl (fun ls hl => ?_)
            refine k_iinc (x := l2) (k := 2) (lv' := [(2, .int (iI (l2 + 1))), (1, .int (iI l1)), (0, .ref (ad 0)), (3, .int (iI ez6))]) hx hb dX8_maximumDepth_104 hl rfl (by decide) rfl (fun ls hl => ?_)
            refine lv_goto (tgt := 13) hx hb dX8_maximumDepth_107 (by decide) ?_
            exact ih x_thrown a_starts a_keywordAt l1 (l2 + 1) y0 hs Hz lz hP hD hSz ls (lv_sub hl [2, 1, 0] rfl) kx
      · cases hs
        exact kx Hz lz hP hD hSz ls (lv_sub hl [1] rfl)
  refine (?_ : ∀ (Hz : Heap) (lz : List Loc), va_P D vwCl (wM cI cZ cJ ad x_thrown x_buffered x_given x_isFolding x_work x_rebuilt x_streamed x_reports x_gapFrom x_gapSize x_elements x_wholeSize x_isLaid x_takenMany a_buffer a_length a_bytes a_weight a_live a_size a_list a_moved a_planned a_stream a_reportedEnd a_reportedKeyword a_starts a_keywordAt a_element a_long1 a_head a_tail a_next a_skip a_last a_whole a_edges a_covers a_weighs a_numbers a_takes a_takenAt) Hz → va_D Az (wM cI cZ cJ ad x_thrown x_buffered x_given x_isFolding x_work x_rebuilt x_streamed x_reports x_gapFrom x_gapSize x_elements x_wholeSize x_isLaid x_takenMany a_buffer a_length a_bytes a_weight a_live a_size a_list a_moved a_planned a_stream a_reportedEnd a_reportedKeyword a_starts a_keywordAt a_element a_long1 a_head a_tail a_next a_skip a_last a_whole a_edges a_covers a_weighs a_numbers a_takes a_takenAt) → va_S Az s.heap Hz lz → W p l e (headSpec wsX8_maximumDepth rm_X8_maximumDepth).room s m args below meth c Hz lz 0 0 (MQ below (QW D vwCl (some (.int (iI r))) wz Az) args s 0 0 Az) (F0 m 0 ls [])) s.heap [] hP hD hSz
  intro Hz lz hP hD hSz
  refine lv_aload_n hx hb dX8_maximumDepth_0 rfl (lv_at hl 0 rfl) ?_
  refine k_iconst (n := 0) hx hb dX8_maximumDepth_1 ?_
  refine va_put (ci := 8) (v := .int (iI 0)) (ty := .int) (C := RX8) (T := TX8) (N := 42) hx hb hts hiX8 tyX8 tyX8_ok nmX8 hown hK hP hD hSz 0 rfl rfl 0 (by decide) hf1 (fun _ h9 => h9) rfl (by decide +kernel) rfl rfl (Nat.le_of_ble_eq_true rfl) dX8_maximumDepth_2 (fun Hz lz hP hD hSz => ?_)
  have hP : va_P D vwCl (wM cI cZ cJ ad 0 x_buffered x_given x_isFolding x_work x_rebuilt x_streamed x_reports x_gapFrom x_gapSize x_elements x_wholeSize x_isLaid x_takenMany a_buffer a_length a_bytes a_weight a_live a_size a_list a_moved a_planned a_stream a_reportedEnd a_reportedKeyword a_starts a_keywordAt a_element a_long1 a_head a_tail a_next a_skip a_last a_whole a_edges a_covers a_weighs a_numbers a_takes a_takenAt) Hz := hP
  have hD : va_D Az (wM cI cZ cJ ad 0 x_buffered x_given x_isFolding x_work x_rebuilt x_streamed x_reports x_gapFrom x_gapSize x_elements x_wholeSize x_isLaid x_takenMany a_buffer a_length a_bytes a_weight a_live a_size a_list a_moved a_planned a_stream a_reportedEnd a_reportedKeyword a_starts a_keywordAt a_element a_long1 a_head a_tail a_next a_skip a_last a_whole a_edges a_covers a_weighs a_numbers a_takes a_takenAt) := hD
  refine lv_aload_n hx hb dX8_maximumDepth_5 rfl (lv_at hl 0 rfl) ?_
  obtain ⟨vz1, vz2, hcz, hs⟩ := bd2_some hs
  refine k_wVs (As := []) (rest := []) (st1 := []) (w1 := (wM cI cZ cJ ad 0 x_buffered x_given x_isFolding x_work x_rebuilt x_streamed x_reports x_gapFrom x_gapSize x_elements x_wholeSize x_isLaid x_takenMany a_buffer a_length a_bytes a_weight a_live a_size a_list a_moved a_planned a_stream a_reportedEnd a_reportedKeyword vz1 vz2 a_element a_long1 a_head a_tail a_next a_skip a_last a_whole a_edges a_covers a_weighs a_numbers a_takes a_takenAt)) ⟨hx, hb, hml, hown, hts⟩ hK hP hD hSz hA (c_X8_laysMatches l D cI cZ cJ hcz) (cwV 0 hts gX8_maximumDepth_X8_laysMatches rfl rfl rfl (by decide +kernel) ⟨Nat.le_of_ble_eq_true rfl, Nat.le_of_ble_eq_true rfl⟩) 0 rfl rfl rfl rfl rfl hl.1 rfl (lv_room (Nat.le_of_ble_eq_true rfl)) dX8_maximumDepth_6 ⟨Nat.zero_le _, Nat.zero_le _⟩ rfl (fun Hz lz hP hD hSz => ?_)
  have hP : va_P D vwCl (wM cI cZ cJ ad 0 x_buffered x_given x_isFolding x_work x_rebuilt x_streamed x_reports x_gapFrom x_gapSize x_elements x_wholeSize x_isLaid x_takenMany a_buffer a_length a_bytes a_weight a_live a_size a_list a_moved a_planned a_stream a_reportedEnd a_reportedKeyword vz1 vz2 a_element a_long1 a_head a_tail a_next a_skip a_last a_whole a_edges a_covers a_weighs a_numbers a_takes a_takenAt) Hz := hP
  have hD : va_D Az (wM cI cZ cJ ad 0 x_buffered x_given x_isFolding x_work x_rebuilt x_streamed x_reports x_gapFrom x_gapSize x_elements x_wholeSize x_isLaid x_takenMany a_buffer a_length a_bytes a_weight a_live a_size a_list a_moved a_planned a_stream a_reportedEnd a_reportedKeyword vz1 vz2 a_element a_long1 a_head a_tail a_next a_skip a_last a_whole a_edges a_covers a_weighs a_numbers a_takes a_takenAt) := hD
  refine k_iconst (n := 0) hx hb dX8_maximumDepth_9 ?_
  refine lv_istore_n (lv' := [(1, .int (iI 0)), (0, .ref (ad 0))]) hx hb dX8_maximumDepth_10 rfl hl (by decide) rfl (fun ls hl => ?_)
  refine k_iconst (n := 0) hx hb dX8_maximumDepth_11 ?_
  refine lv_istore_n (lv' := [(2, .int (iI 0)), (1, .int (iI 0)), (0, .ref (ad 0))]) hx hb dX8_maximumDepth_12 rfl hl (by decide) rfl (fun ls hl => ?_)
  obtain ⟨ez7, hq, hs⟩ := bd1_some hs
  refine Lz13 FU 0 vz1 vz2 0 0 ez7 hq Hz lz hP hD hSz ls (lv_sub hl [2, 1, 0] rfl) ?_
  intro Hz lz hP hD hSz ls hl
  refine lv_iload_n hx hb dX8_maximumDepth_110 rfl (lv_at hl 0 rfl) ?_
  cases hs
  exact k_iret_w hx hb hr hlk (by rw [hw1]; exact hP) hSz dX8_maximumDepth_111 rfl
/-! X8_isContained -/
set_option maxHeartbeats 4000000 in
set_option maxRecDepth 100000 in
theorem c_X8_isContained (l : Launch) (D : va_G) (cI cZ cJ : ClassId) {ad : Nat → Nat} {x_thrown : Int} {x_buffered : Int} {x_given : Int} {x_isFolding : Int} {x_work : Int} {x_rebuilt : Int} {x_streamed : Int} {x_reports : Int} {x_gapFrom : Int} {x_gapSize : Int} {x_elements : Int} {x_wholeSize : Int} {x_isLaid : Int} {x_takenMany : Int} {a_buffer : (Int → Int)} {a_length : (Int → Int)} {a_bytes : (Int → Int)} {a_weight : (Int → Int)} {a_live : (Int → Int)} {a_size : (Int → Int)} {a_list : (Int → Int)} {a_moved : (Int → Int)} {a_planned : (Int → Int)} {a_stream : (Int → Int)} {a_reportedEnd : (Int → Int)} {a_reportedKeyword : (Int → Int)} {a_starts : (Int → Int)} {a_keywordAt : (Int → Int)} {a_element : (Int → Int)} {a_long1 : (Int → Int)} {a_head : (Int → Int)} {a_tail : (Int → Int)} {a_next : (Int → Int)} {a_skip : (Int → Int)} {a_last : (Int → Int)} {a_whole : (Int → Int)} {a_edges : (Int → Int)} {a_covers : (Int → Int)} {a_weighs : (Int → Int)} {a_numbers : (Int → Int)} {a_takes : (Int → Int)} {a_takenAt : (Int → Int)} {pz1 : Int} {pz2 : Int} {r : Int} (hs : s_X8_isContained a_starts pz1 pz2 = some r) : Met l yX8_isContained wsX8_isContained rm_X8_isContained (PR D vwCl [(cI, .int), (cZ, .boolean), (cJ, .long)] [.ref (ad 0), .int (iI pz1), .int (iI pz2)] (wM cI cZ cJ ad x_thrown x_buffered x_given x_isFolding x_work x_rebuilt x_streamed x_reports x_gapFrom x_gapSize x_elements x_wholeSize x_isLaid x_takenMany a_buffer a_length a_bytes a_weight a_live a_size a_list a_moved a_planned a_stream a_reportedEnd a_reportedKeyword a_starts a_keywordAt a_element a_long1 a_head a_tail a_next a_skip a_last a_whole a_edges a_covers a_weighs a_numbers a_takes a_takenAt)) (QR (some (.int (iI r)))) 0 0 (fun _ => False) := by
  refine Met.ofW (cc := cX8_isContained) (maxL := 5) (ret := (some .boolean)) (by decide) rfl ?_
  intro p e s m args below meth c s₁ B hml hv
  obtain ⟨hav, hP, hK⟩ := hv
  have hx := B.exec
  have hb := B.bytes
  have hr := B.returns
  have hts := atoms_spec (ws := wsX8_isContained) B.pre
  have hown : s.vm.findClass RX8 = some m.cls := findClass_of_methodNamed B.named
  have hlk := B.notSynchronized
  have hl := lv_entry ([.ref (ad 0), .int (iI pz1), .int (iI pz2)]) (n := 5) (Nat.le_of_ble_eq_true rfl)
  rw [show entryFrame m args 5 = entryFrame m ([.ref (ad 0), .int (iI pz1), .int (iI pz2)] : List Value).toArray 5 from by rw [hav], lg_entry_eq]
  generalize (lg_sl ([.ref (ad 0), .int (iI pz1), .int (iI pz2)]) ++ List.replicate (5 - (lg_sl ([.ref (ad 0), .int (iI pz1), .int (iI pz2)])).length) Slot.unset).toArray = ls at hl ⊢
  have hl : lv_has ls 5 [(0, .ref (ad 0)), (1, .int (iI pz1)), (2, .int (iI pz2))] := hl
  unfold s_X8_isContained at hs
  have Lz27 : ∀ (fu : Nat) (l1 : Int) (l2 : Int) (l3 : Int) (l4 : Int) (outz : (Int) ⊕ (Unit)), s_X8_isContained_27 fu a_starts l1 l2 l3 l4 = some outz → ∀ ls : Array Slot, lv_has ls 5 [(0, .ref (ad 0)), (1, .int (iI l1)), (2, .int (iI l2)), (3, .int (iI l3)), (4, .int (iI l4))] → (∀ rr, outz = .inl rr → rr = r) → (outz = .inr () → ∀ ls : Array Slot, lv_has ls 5 [(0, .ref (ad 0)), (1, .int (iI l1)), (2, .int (iI l2)), (3, .int (iI l3))] → W p l e (headSpec wsX8_isContained rm_X8_isContained).room s m args below meth c s.heap [] 0 0 (MQ below (QR (some (.int (iI r)))) args s 0 0 (fun _ => False)) (F0 m 62 ls [])) → W p l e (headSpec wsX8_isContained rm_X8_isContained).room s m args below meth c s.heap [] 0 0 (MQ below (QR (some (.int (iI r)))) args s 0 0 (fun _ => False)) (F0 m 27 ls []) := by
    intro fu
    induction fu with
    | zero => intro l1 l2 l3 l4 outz hs; cases hs
    | succ fu ih =>
      intro l1 l2 l3 l4 outz hs ls hl kr kx
      rw [s_X8_isContained_27_s] at hs
      refine lv_iload hx hb dX8_isContained_27 (lv_at hl 4 rfl) ?_
      refine k_bipush (n := 16) hx hb (by decide) dX8_isContained_29 ?_
      refine k_icmp_gt (tgt := 62) hx hb hs dX8_isContained_31 (by decide) (fun hs => ?_) (fun hs => ?_)
      · cases hs
        exact kx  rfl ls (lv_sub hl [0, 1, 2, 3] rfl)
      · refine lv_iload_n hx hb dX8_isContained_34 rfl (lv_at hl 3 rfl) ?_
        refine lv_iload hx hb dX8_isContained_35 (lv_at hl 4 rfl) ?_
        refine k_iadd hx hb dX8_isContained_37 ?_
        refine lv_iload_n hx hb dX8_isContained_38 rfl (lv_at hl 1 rfl) ?_
        refine lv_iload_n hx hb dX8_isContained_39 rfl (lv_at hl 2 rfl) ?_
        refine k_iadd hx hb dX8_isContained_40 ?_
        refine k_icmp_lt (tgt := 56) hx hb hs dX8_isContained_41 (by decide) (fun hs => ?_) (fun hs => ?_)
        · refine k_iinc (x := l4) (k := 4) (lv' := [(4, .int (iI (l4 + 1))), (0, .ref (ad 0)), (1, .int (iI l1)), (2, .int (iI l2)), (3, .int (iI l3))]) hx hb dX8_isContained_56 hl rfl (by decide) rfl (fun ls hl => ?_)
          refine lv_goto (tgt := 27) hx hb dX8_isContained_59 (by decide) ?_
          exact ih l1 l2 l3 (l4 + 1) outz hs ls (lv_sub hl [1, 2, 3, 4, 0] rfl) kr kx
        · refine lv_aload_n hx hb dX8_isContained_44 rfl (lv_at hl 0 rfl) ?_
          refine lv_iload_n hx hb dX8_isContained_45 rfl (lv_at hl 3 rfl) ?_
          refine lv_iload hx hb dX8_isContained_46 (lv_at hl 4 rfl) ?_
          obtain ⟨vz1, hcz, hs⟩ := bd1_some hs
          refine k_rV (As := [.int (iI l3), .int (iI l4)]) (rest := []) (st1 := [.int (iI vz1)]) ⟨hx, hb, hml, hown, hts⟩ hK hP (c_X8_hasAt l D cI cZ cJ hcz) (cwV 2 hts gX8_isContained_X8_hasAt rfl rfl rfl (by decide +kernel) ⟨Nat.le_of_ble_eq_true rfl, Nat.le_of_ble_eq_true rfl⟩) 0 rfl rfl rfl rfl hl.1 rfl (lv_room (Nat.le_of_ble_eq_true rfl)) dX8_isContained_48 ⟨Nat.zero_le _, Nat.zero_le _⟩ rfl ?_
          refine k_if_eq (tgt := 56) hx hb hs dX8_isContained_51 (by decide) (fun hs => ?_) (fun hs => ?_)
          · refine k_iinc (x := l4) (k := 4) (lv' := [(4, .int (iI (l4 + 1))), (0, .ref (ad 0)), (1, .int (iI l1)), (2, .int (iI l2)), (3, .int (iI l3))]) hx hb dX8_isContained_56 hl rfl (by decide) rfl (fun ls hl => ?_)
            refine lv_goto (tgt := 27) hx hb dX8_isContained_59 (by decide) ?_
            exact ih l1 l2 l3 (l4 + 1) outz hs ls (lv_sub hl [1, 2, 3, 4, 0] rfl) kr kx
          · refine k_iconst (n := 1) hx hb dX8_isContained_54 ?_
            have hs := kr _ (Option.some.inj hs).symm
            cases hs
            exact k_zret_r hx hb hr hlk rfl (by decide) dX8_isContained_55 rfl
  have Lz17 : ∀ (fu : Nat) (l1 : Int) (l2 : Int) (l3 : Int), s_X8_isContained_17 fu a_starts l1 l2 l3 = some r → ∀ ls : Array Slot, lv_has ls 5 [(0, .ref (ad 0)), (1, .int (iI l1)), (2, .int (iI l2)), (3, .int (iI l3))] → W p l e (headSpec wsX8_isContained rm_X8_isContained).room s m args below meth c s.heap [] 0 0 (MQ below (QR (some (.int (iI r)))) args s 0 0 (fun _ => False)) (F0 m 17 ls []) := by
    intro fu
    induction fu with
    | zero => intro l1 l2 l3 hs; cases hs
    | succ fu ih =>
      intro l1 l2 l3 hs ls hl
      rw [s_X8_isContained_17_s] at hs
      refine lv_iload_n hx hb dX8_isContained_17 rfl (lv_at hl 3 rfl) ?_
      refine lv_iload_n hx hb dX8_isContained_18 rfl (lv_at hl 1 rfl) ?_
      refine k_icmp_gt (tgt := 68) hx hb hs dX8_isContained_19 (by decide) (fun hs => ?_) (fun hs => ?_)
      · refine k_iconst (n := 0) hx hb dX8_isContained_68 ?_
        cases hs
        exact k_zret_r hx hb hr hlk rfl (by decide) dX8_isContained_69 rfl
      · refine lv_iload_n hx hb dX8_isContained_22 rfl (lv_at hl 2 rfl) ?_
        refine k_iconst (n := 1) hx hb dX8_isContained_23 ?_
        refine k_iadd hx hb dX8_isContained_24 ?_
        refine lv_istore (lv' := [(4, .int (iI (l2 + 1))), (0, .ref (ad 0)), (1, .int (iI l1)), (2, .int (iI l2)), (3, .int (iI l3))]) hx hb dX8_isContained_25 hl (by decide) rfl (fun ls hl => ?_)
        rcases bdS0_some hs with ⟨rz2, hq, hs⟩ | ⟨hq, hs⟩
        · refine Lz27 FU l1 l2 l3 (l2 + 1) (.inl rz2) hq ls (lv_sub hl [1, 2, 3, 4, 0] rfl) (fun r9 h9 => by cases h9; exact Option.some.inj hs) (fun  h9 => by cases h9)
        · refine Lz27 FU l1 l2 l3 (l2 + 1) (.inr ()) hq ls (lv_sub hl [1, 2, 3, 4, 0] rfl) (fun r9 h9 => by cases h9) ?_
          intro  h9 ls hl
          cases h9
          refine k_iinc (x := l3) (k := 3) (lv' := [(3, .int (iI (l3 + 1))), (0, .ref (ad 0)), (1, .int (iI l1)), (2, .int (iI l2))]) hx hb dX8_isContained_62 hl rfl (by decide) rfl (fun ls hl => ?_)
          refine lv_goto (tgt := 17) hx hb dX8_isContained_65 (by decide) ?_
          exact ih l1 l2 (l3 + 1)  hs ls (lv_sub hl [1, 2, 3, 0] rfl)
  refine lv_iload_n hx hb dX8_isContained_0 rfl (lv_at hl 1 rfl) ?_
  refine k_bipush (n := 16) hx hb (by decide) dX8_isContained_1 ?_
  refine k_icmp_ge (tgt := 10) hx hb hs dX8_isContained_3 (by decide) (fun hs => ?_) (fun hs => ?_)
  · refine k_iconst (n := 0) hx hb dX8_isContained_6 ?_
    refine lv_goto (tgt := 16) hx hb dX8_isContained_7 (by decide) ?_
    refine lv_istore_n (lv' := [(3, .int (iI 0)), (0, .ref (ad 0)), (1, .int (iI pz1)), (2, .int (iI pz2))]) hx hb dX8_isContained_16 rfl hl (by decide) rfl (fun ls hl => ?_)
    exact Lz17 FU pz1 pz2 0 hs ls (lv_sub hl [1, 2, 3, 0] rfl)
  · refine lv_iload_n hx hb dX8_isContained_10 rfl (lv_at hl 1 rfl) ?_
    refine k_bipush (n := 16) hx hb (by decide) dX8_isContained_11 ?_
    refine k_isub hx hb dX8_isContained_13 ?_
    refine k_iconst (n := 1) hx hb dX8_isContained_14 ?_
    refine k_iadd hx hb dX8_isContained_15 ?_
    refine lv_istore_n (lv' := [(3, .int (iI ((pz1 - 16) + 1))), (0, .ref (ad 0)), (1, .int (iI pz1)), (2, .int (iI pz2))]) hx hb dX8_isContained_16 rfl hl (by decide) rfl (fun ls hl => ?_)
    exact Lz17 FU pz1 pz2 ((pz1 - 16) + 1) hs ls (lv_sub hl [1, 2, 3, 0] rfl)
/-! X8_containedMatches -/
set_option maxHeartbeats 4000000 in
set_option maxRecDepth 100000 in
theorem c_X8_containedMatches (l : Launch) (D : va_G) (cI cZ cJ : ClassId) {ad : Nat → Nat} {x_thrown : Int} {x_buffered : Int} {x_given : Int} {x_isFolding : Int} {x_work : Int} {x_rebuilt : Int} {x_streamed : Int} {x_reports : Int} {x_gapFrom : Int} {x_gapSize : Int} {x_elements : Int} {x_wholeSize : Int} {x_isLaid : Int} {x_takenMany : Int} {a_buffer : (Int → Int)} {a_length : (Int → Int)} {a_bytes : (Int → Int)} {a_weight : (Int → Int)} {a_live : (Int → Int)} {a_size : (Int → Int)} {a_list : (Int → Int)} {a_moved : (Int → Int)} {a_planned : (Int → Int)} {a_stream : (Int → Int)} {a_reportedEnd : (Int → Int)} {a_reportedKeyword : (Int → Int)} {a_starts : (Int → Int)} {a_keywordAt : (Int → Int)} {a_element : (Int → Int)} {a_long1 : (Int → Int)} {a_head : (Int → Int)} {a_tail : (Int → Int)} {a_next : (Int → Int)} {a_skip : (Int → Int)} {a_last : (Int → Int)} {a_whole : (Int → Int)} {a_edges : (Int → Int)} {a_covers : (Int → Int)} {a_weighs : (Int → Int)} {a_numbers : (Int → Int)} {a_takes : (Int → Int)} {a_takenAt : (Int → Int)} {r : Int} {y_x_thrown : Int} {y_a_starts : (Int → Int)} {y_a_keywordAt : (Int → Int)} {sz : Nat} (hs : s_X8_containedMatches x_thrown x_given x_isFolding x_streamed a_length a_bytes a_live a_stream a_starts a_keywordAt = some (r, y_x_thrown, y_a_starts, y_a_keywordAt)) : Met l yX8_containedMatches wsX8_containedMatches rm_X8_containedMatches (PW D vwCl [(cI, .int), (cZ, .boolean), (cJ, .long)] [.ref (ad 0)] (wM cI cZ cJ ad x_thrown x_buffered x_given x_isFolding x_work x_rebuilt x_streamed x_reports x_gapFrom x_gapSize x_elements x_wholeSize x_isLaid x_takenMany a_buffer a_length a_bytes a_weight a_live a_size a_list a_moved a_planned a_stream a_reportedEnd a_reportedKeyword a_starts a_keywordAt a_element a_long1 a_head a_tail a_next a_skip a_last a_whole a_edges a_covers a_weighs a_numbers a_takes a_takenAt) sz) (QW D vwCl (some (.int (iI r))) (wM cI cZ cJ ad y_x_thrown x_buffered x_given x_isFolding x_work x_rebuilt x_streamed x_reports x_gapFrom x_gapSize x_elements x_wholeSize x_isLaid x_takenMany a_buffer a_length a_bytes a_weight a_live a_size a_list a_moved a_planned a_stream a_reportedEnd a_reportedKeyword y_a_starts y_a_keywordAt a_element a_long1 a_head a_tail a_next a_skip a_last a_whole a_edges a_covers a_weighs a_numbers a_takes a_takenAt) (va_A (wM cI cZ cJ ad x_thrown x_buffered x_given x_isFolding x_work x_rebuilt x_streamed x_reports x_gapFrom x_gapSize x_elements x_wholeSize x_isLaid x_takenMany a_buffer a_length a_bytes a_weight a_live a_size a_list a_moved a_planned a_stream a_reportedEnd a_reportedKeyword a_starts a_keywordAt a_element a_long1 a_head a_tail a_next a_skip a_last a_whole a_edges a_covers a_weighs a_numbers a_takes a_takenAt) sz)) 0 0 (va_A (wM cI cZ cJ ad x_thrown x_buffered x_given x_isFolding x_work x_rebuilt x_streamed x_reports x_gapFrom x_gapSize x_elements x_wholeSize x_isLaid x_takenMany a_buffer a_length a_bytes a_weight a_live a_size a_list a_moved a_planned a_stream a_reportedEnd a_reportedKeyword a_starts a_keywordAt a_element a_long1 a_head a_tail a_next a_skip a_last a_whole a_edges a_covers a_weighs a_numbers a_takes a_takenAt) sz) := by
  refine Met.ofW (cc := cX8_containedMatches) (maxL := 4) (ret := (some .int)) (by decide) rfl ?_
  intro p e s m args below meth c s₁ B hml hv
  obtain ⟨hav, hsz, hP, hK, hD0⟩ := hv
  have hx := B.exec
  have hb := B.bytes
  have hr := B.returns
  have hts := atoms_spec (ws := wsX8_containedMatches) B.pre
  have hown : s.vm.findClass RX8 = some m.cls := findClass_of_methodNamed B.named
  have hlk := B.notSynchronized
  have hf1 : (Cond.fieldLink RX8 1 "KeywordMatcherModel" "thrown" "I").before args s = true := hts _ (List.mem_of_getElem? (i := 1) rfl)
  have hiX8 : ∀ w ∈ wsX80, w ∈ wsX8_containedMatches := fun w h => List.mem_cons_of_mem _ (List.mem_append_right _ h)
  have hf170 : (Cond.fieldLink RX8 170 "KeywordMatcherModel" "streamed" "I").before args s = true := hts _ (List.mem_of_getElem? (i := 2) rfl)
  subst hsz
  have hD := hD0.self (sz := s.heap.size)
  generalize hAe : va_A (wM cI cZ cJ ad x_thrown x_buffered x_given x_isFolding x_work x_rebuilt x_streamed x_reports x_gapFrom x_gapSize x_elements x_wholeSize x_isLaid x_takenMany a_buffer a_length a_bytes a_weight a_live a_size a_list a_moved a_planned a_stream a_reportedEnd a_reportedKeyword a_starts a_keywordAt a_element a_long1 a_head a_tail a_next a_skip a_last a_whole a_edges a_covers a_weighs a_numbers a_takes a_takenAt) s.heap.size = Az at hD ⊢
  have hA : ∀ q : Nat, s.heap.size ≤ q → Az q := fun q h => by rw [← hAe]; exact Or.inr h
  clear hAe
  have hSz : va_S Az s.heap s.heap [] := va_S.rf
  obtain ⟨wz, hw1⟩ : ∃ z : va_W, z = (wM cI cZ cJ ad y_x_thrown x_buffered x_given x_isFolding x_work x_rebuilt x_streamed x_reports x_gapFrom x_gapSize x_elements x_wholeSize x_isLaid x_takenMany a_buffer a_length a_bytes a_weight a_live a_size a_list a_moved a_planned a_stream a_reportedEnd a_reportedKeyword y_a_starts y_a_keywordAt a_element a_long1 a_head a_tail a_next a_skip a_last a_whole a_edges a_covers a_weighs a_numbers a_takes a_takenAt) := ⟨_, rfl⟩
  rw [← hw1]
  have hl := lv_entry ([.ref (ad 0)]) (n := 4) (Nat.le_of_ble_eq_true rfl)
  rw [show entryFrame m args 4 = entryFrame m ([.ref (ad 0)] : List Value).toArray 4 from by rw [hav], lg_entry_eq]
  generalize (lg_sl ([.ref (ad 0)]) ++ List.replicate (4 - (lg_sl ([.ref (ad 0)])).length) Slot.unset).toArray = ls at hl ⊢
  have hl : lv_has ls 4 [(0, .ref (ad 0))] := hl
  unfold s_X8_containedMatches at hs
  have Lz23 : ∀ (fu : Nat) (x_thrown : Int) (a_starts : (Int → Int)) (a_keywordAt : (Int → Int)) (l1 : Int) (l2 : Int) (l3 : Int) (y0 : Int), s_X8_containedMatches_23 fu a_starts l1 l2 l3 = some y0 → ∀ (Hz : Heap) (lz : List Loc), va_P D vwCl (wM cI cZ cJ ad x_thrown x_buffered x_given x_isFolding x_work x_rebuilt x_streamed x_reports x_gapFrom x_gapSize x_elements x_wholeSize x_isLaid x_takenMany a_buffer a_length a_bytes a_weight a_live a_size a_list a_moved a_planned a_stream a_reportedEnd a_reportedKeyword a_starts a_keywordAt a_element a_long1 a_head a_tail a_next a_skip a_last a_whole a_edges a_covers a_weighs a_numbers a_takes a_takenAt) Hz → va_D Az (wM cI cZ cJ ad x_thrown x_buffered x_given x_isFolding x_work x_rebuilt x_streamed x_reports x_gapFrom x_gapSize x_elements x_wholeSize x_isLaid x_takenMany a_buffer a_length a_bytes a_weight a_live a_size a_list a_moved a_planned a_stream a_reportedEnd a_reportedKeyword a_starts a_keywordAt a_element a_long1 a_head a_tail a_next a_skip a_last a_whole a_edges a_covers a_weighs a_numbers a_takes a_takenAt) → va_S Az s.heap Hz lz → ∀ ls : Array Slot, lv_has ls 4 [(0, .ref (ad 0)), (1, .int (iI l1)), (2, .int (iI l2)), (3, .int (iI l3))] → (∀ (Hz : Heap) (lz : List Loc), va_P D vwCl (wM cI cZ cJ ad x_thrown x_buffered x_given x_isFolding x_work x_rebuilt x_streamed x_reports x_gapFrom x_gapSize x_elements x_wholeSize x_isLaid x_takenMany a_buffer a_length a_bytes a_weight a_live a_size a_list a_moved a_planned a_stream a_reportedEnd a_reportedKeyword a_starts a_keywordAt a_element a_long1 a_head a_tail a_next a_skip a_last a_whole a_edges a_covers a_weighs a_numbers a_takes a_takenAt) Hz → va_D Az (wM cI cZ cJ ad x_thrown x_buffered x_given x_isFolding x_work x_rebuilt x_streamed x_reports x_gapFrom x_gapSize x_elements x_wholeSize x_isLaid x_takenMany a_buffer a_length a_bytes a_weight a_live a_size a_list a_moved a_planned a_stream a_reportedEnd a_reportedKeyword a_starts a_keywordAt a_element a_long1 a_head a_tail a_next a_skip a_last a_whole a_edges a_covers a_weighs a_numbers a_takes a_takenAt) → va_S Az s.heap Hz lz → ∀ ls : Array Slot, lv_has ls 4 [(0, .ref (ad 0)), (1, .int (iI y0)), (2, .int (iI l2))] → W p l e (headSpec wsX8_containedMatches rm_X8_containedMatches).room s m args below meth c Hz lz 0 0 (MQ below (QW D vwCl (some (.int (iI r))) wz Az) args s 0 0 Az) (F0 m 61 ls [])) → W p l e (headSpec wsX8_containedMatches rm_X8_containedMatches).room s m args below meth c Hz lz 0 0 (MQ below (QW D vwCl (some (.int (iI r))) wz Az) args s 0 0 Az) (F0 m 23 ls []) := by
    intro fu
    induction fu with
    | zero => intro x_thrown a_starts a_keywordAt l1 l2 l3 y0 hs; cases hs
    | succ fu ih =>
      intro x_thrown a_starts a_keywordAt l1 l2 l3 y0 hs Hz lz hP hD hSz ls hl kx
      rw [s_X8_containedMatches_23_s] at hs
      refine lv_iload_n hx hb dX8_containedMatches_23 rfl (lv_at hl 3 rfl) ?_
      refine k_bipush (n := 16) hx hb (by decide) dX8_containedMatches_24 ?_
      refine k_icmp_gt (tgt := 61) hx hb hs dX8_containedMatches_26 (by decide) (fun hs => ?_) (fun hs => ?_)
      · cases hs
        exact kx Hz lz hP hD hSz ls (lv_sub hl [0, 1, 2] rfl)
      · refine lv_iload_n hx hb dX8_containedMatches_29 rfl (lv_at hl 1 rfl) ?_
        refine lv_aload_n hx hb dX8_containedMatches_30 rfl (lv_at hl 0 rfl) ?_
        refine lv_iload_n hx hb dX8_containedMatches_31 rfl (lv_at hl 2 rfl) ?_
        refine lv_iload_n hx hb dX8_containedMatches_32 rfl (lv_at hl 3 rfl) ?_
        obtain ⟨vz3, hcz, hs⟩ := bd1_some hs
        refine k_rV (As := [.int (iI l2), .int (iI l3)]) (rest := [.int (iI l1)]) (st1 := [.int (iI vz3), .int (iI l1)]) ⟨hx, hb, hml, hown, hts⟩ hK hP (c_X8_hasAt l D cI cZ cJ hcz) (cwV 2 hts gX8_containedMatches_X8_hasAt rfl rfl rfl (by decide +kernel) ⟨Nat.le_of_ble_eq_true rfl, Nat.le_of_ble_eq_true rfl⟩) 0 rfl rfl rfl rfl hl.1 rfl (lv_room (Nat.le_of_ble_eq_true rfl)) dX8_containedMatches_33 ⟨Nat.zero_le _, Nat.zero_le _⟩ rfl ?_
        refine k_if_eq (tgt := 52) hx hb hs dX8_containedMatches_36 (by decide) (fun hs => ?_) (fun hs => ?_)
        · refine k_iconst (n := 0) hx hb dX8_containedMatches_52 ?_
          refine k_iadd hx hb dX8_containedMatches_53 ?_
          refine lv_istore_n (lv' := [(1, .int (iI (l1 + 0))), (0, .ref (ad 0)), (2, .int (iI l2)), (3, .int (iI l3))]) hx hb dX8_containedMatches_54 rfl hl (by decide) rfl (fun ls hl => ?_)
          refine k_iinc (x := l3) (k := 3) (lv' := [(3, .int (iI (l3 + 1))), (1, .int (iI (l1 + 0))), (0, .ref (ad 0)), (2, .int (iI l2))]) hx hb dX8_containedMatches_55 hl rfl (by decide) rfl (fun ls hl => ?_)
          refine lv_goto (tgt := 23) hx hb dX8_containedMatches_58 (by decide) ?_
          exact ih x_thrown a_starts a_keywordAt (l1 + 0) l2 (l3 + 1) y0 hs Hz lz hP hD hSz ls (lv_sub hl [2, 1, 3, 0] rfl) kx
        · refine lv_aload_n hx hb dX8_containedMatches_39 rfl (lv_at hl 0 rfl) ?_
          refine lv_iload_n hx hb dX8_containedMatches_40 rfl (lv_at hl 2 rfl) ?_
          refine lv_iload_n hx hb dX8_containedMatches_41 rfl (lv_at hl 3 rfl) ?_
          obtain ⟨vz4, hcz, hs⟩ := bd1_some hs
          refine k_rV (As := [.int (iI l2), .int (iI l3)]) (rest := [.int (iI l1)]) (st1 := [.int (iI vz4), .int (iI l1)]) ⟨hx, hb, hml, hown, hts⟩ hK hP (c_X8_isContained l D cI cZ cJ hcz) (cwV 2 hts gX8_containedMatches_X8_isContained rfl rfl rfl (by decide +kernel) ⟨Nat.le_of_ble_eq_true rfl, Nat.le_of_ble_eq_true rfl⟩) 0 rfl rfl rfl rfl hl.1 rfl (lv_room (Nat.le_of_ble_eq_true rfl)) dX8_containedMatches_42 ⟨Nat.zero_le _, Nat.zero_le _⟩ rfl ?_
          refine k_if_eq (tgt := 52) hx hb hs dX8_containedMatches_45 (by decide) (fun hs => ?_) (fun hs => ?_)
          · refine k_iconst (n := 0) hx hb dX8_containedMatches_52 ?_
            refine k_iadd hx hb dX8_containedMatches_53 ?_
            refine lv_istore_n (lv' := [(1, .int (iI (l1 + 0))), (0, .ref (ad 0)), (2, .int (iI l2)), (3, .int (iI l3))]) hx hb dX8_containedMatches_54 rfl hl (by decide) rfl (fun ls hl => ?_)
            refine k_iinc (x := l3) (k := 3) (lv' := [(3, .int (iI (l3 + 1))), (1, .int (iI (l1 + 0))), (0, .ref (ad 0)), (2, .int (iI l2))]) hx hb dX8_containedMatches_55 hl rfl (by decide) rfl (fun ls hl => ?_)
            refine lv_goto (tgt := 23) hx hb dX8_containedMatches_58 (by decide) ?_
            exact ih x_thrown a_starts a_keywordAt (l1 + 0) l2 (l3 + 1) y0 hs Hz lz hP hD hSz ls (lv_sub hl [2, 1, 3, 0] rfl) kx
          · refine k_iconst (n := 1) hx hb dX8_containedMatches_48 ?_
            refine lv_goto (tgt := 53) hx hb dX8_containedMatches_49 (by decide) ?_
            refine k_iadd hx hb dX8_containedMatches_53 ?_
            refine lv_istore_n (lv' := [(1, .int (iI (l1 + 1))), (0, .ref (ad 0)), (2, .int (iI l2)), (3, .int (iI l3))]) hx hb dX8_containedMatches_54 rfl hl (by decide) rfl (fun ls hl => ?_)
            refine k_iinc (x := l3) (k := 3) (lv' := [(3, .int (iI (l3 + 1))), (1, .int (iI (l1 + 1))), (0, .ref (ad 0)), (2, .int (iI l2))]) hx hb dX8_containedMatches_55 hl rfl (by decide) rfl (fun ls hl => ?_)
            refine lv_goto (tgt := 23) hx hb dX8_containedMatches_58 (by decide) ?_
            exact ih x_thrown a_starts a_keywordAt (l1 + 1) l2 (l3 + 1) y0 hs Hz lz hP hD hSz ls (lv_sub hl [2, 1, 3, 0] rfl) kx
  have Lz13 : ∀ (fu : Nat) (x_thrown : Int) (a_starts : (Int → Int)) (a_keywordAt : (Int → Int)) (l1 : Int) (l2 : Int) (y0 : Int), s_X8_containedMatches_13 fu x_streamed a_starts l1 l2 = some y0 → ∀ (Hz : Heap) (lz : List Loc), va_P D vwCl (wM cI cZ cJ ad x_thrown x_buffered x_given x_isFolding x_work x_rebuilt x_streamed x_reports x_gapFrom x_gapSize x_elements x_wholeSize x_isLaid x_takenMany a_buffer a_length a_bytes a_weight a_live a_size a_list a_moved a_planned a_stream a_reportedEnd a_reportedKeyword a_starts a_keywordAt a_element a_long1 a_head a_tail a_next a_skip a_last a_whole a_edges a_covers a_weighs a_numbers a_takes a_takenAt) Hz → va_D Az (wM cI cZ cJ ad x_thrown x_buffered x_given x_isFolding x_work x_rebuilt x_streamed x_reports x_gapFrom x_gapSize x_elements x_wholeSize x_isLaid x_takenMany a_buffer a_length a_bytes a_weight a_live a_size a_list a_moved a_planned a_stream a_reportedEnd a_reportedKeyword a_starts a_keywordAt a_element a_long1 a_head a_tail a_next a_skip a_last a_whole a_edges a_covers a_weighs a_numbers a_takes a_takenAt) → va_S Az s.heap Hz lz → ∀ ls : Array Slot, lv_has ls 4 [(0, .ref (ad 0)), (1, .int (iI l1)), (2, .int (iI l2))] → (∀ (Hz : Heap) (lz : List Loc), va_P D vwCl (wM cI cZ cJ ad x_thrown x_buffered x_given x_isFolding x_work x_rebuilt x_streamed x_reports x_gapFrom x_gapSize x_elements x_wholeSize x_isLaid x_takenMany a_buffer a_length a_bytes a_weight a_live a_size a_list a_moved a_planned a_stream a_reportedEnd a_reportedKeyword a_starts a_keywordAt a_element a_long1 a_head a_tail a_next a_skip a_last a_whole a_edges a_covers a_weighs a_numbers a_takes a_takenAt) Hz → va_D Az (wM cI cZ cJ ad x_thrown x_buffered x_given x_isFolding x_work x_rebuilt x_streamed x_reports x_gapFrom x_gapSize x_elements x_wholeSize x_isLaid x_takenMany a_buffer a_length a_bytes a_weight a_live a_size a_list a_moved a_planned a_stream a_reportedEnd a_reportedKeyword a_starts a_keywordAt a_element a_long1 a_head a_tail a_next a_skip a_last a_whole a_edges a_covers a_weighs a_numbers a_takes a_takenAt) → va_S Az s.heap Hz lz → ∀ ls : Array Slot, lv_has ls 4 [(1, .int (iI y0))] → W p l e (headSpec wsX8_containedMatches rm_X8_containedMatches).room s m args below meth c Hz lz 0 0 (MQ below (QW D vwCl (some (.int (iI r))) wz Az) args s 0 0 Az) (F0 m 67 ls [])) → W p l e (headSpec wsX8_containedMatches rm_X8_containedMatches).room s m args below meth c Hz lz 0 0 (MQ below (QW D vwCl (some (.int (iI r))) wz Az) args s 0 0 Az) (F0 m 13 ls []) := by
    intro fu
    induction fu with
    | zero => intro x_thrown a_starts a_keywordAt l1 l2 y0 hs; cases hs
    | succ fu ih =>
      intro x_thrown a_starts a_keywordAt l1 l2 y0 hs Hz lz hP hD hSz ls hl kx
      rw [s_X8_containedMatches_13_s] at hs
      refine lv_iload_n hx hb dX8_containedMatches_13 rfl (lv_at hl 2 rfl) ?_
      refine lv_aload_n hx hb dX8_containedMatches_14 rfl (lv_at hl 0 rfl) ?_
      refine va_get (ci := 8) (v := .int (iI x_streamed)) (C := RX8) (T := TX8) (N := 42) hx hb hts hiX8 hown hK hP 0 rfl rfl 18 (by decide) hf170 (fun _ h9 => h9) rfl dX8_containedMatches_15 ?_
      refine k_icmp_ge (tgt := 67) hx hb hs dX8_containedMatches_18 (by decide) (fun hs => ?_) (fun hs => ?_)
      · refine k_iconst (n := 1) hx hb dX8_containedMatches_21 ?_
        refine lv_istore_n (lv' := [(3, .int (iI 1)), (0, .ref (ad 0)), (1, .int (iI l1)), (2, .int (iI l2))]) hx hb dX8_containedMatches_22 rfl hl (by decide) rfl (fun ls hl => ?_)
        obtain ⟨ez5, hq, hs⟩ := bd1_some hs
        refine Lz23 FU x_thrown a_starts a_keywordAt l1 l2 1 ez5 hq Hz lz hP hD hSz ls (lv_sub hl [1, 2, 3, 0] rfl) ?_
        intro Hz lz hP hD hSz ls hl
        refine k_iinc (x := l2) (k := 2) (lv' := [(2, .int (iI (l2 + 1))), (0, .ref (ad 0)), (1, .int (iI ez5))]) hx hb dX8_containedMatches_61 hl rfl (by decide) rfl (fun ls hl => ?_)
        refine lv_goto (tgt := 13) hx hb dX8_containedMatches_64 (by decide) ?_
        exact ih x_thrown a_starts a_keywordAt ez5 (l2 + 1) y0 hs Hz lz hP hD hSz ls (lv_sub hl [1, 2, 0] rfl) kx
      · cases hs
        exact kx Hz lz hP hD hSz ls (lv_sub hl [1] rfl)
  refine (?_ : ∀ (Hz : Heap) (lz : List Loc), va_P D vwCl (wM cI cZ cJ ad x_thrown x_buffered x_given x_isFolding x_work x_rebuilt x_streamed x_reports x_gapFrom x_gapSize x_elements x_wholeSize x_isLaid x_takenMany a_buffer a_length a_bytes a_weight a_live a_size a_list a_moved a_planned a_stream a_reportedEnd a_reportedKeyword a_starts a_keywordAt a_element a_long1 a_head a_tail a_next a_skip a_last a_whole a_edges a_covers a_weighs a_numbers a_takes a_takenAt) Hz → va_D Az (wM cI cZ cJ ad x_thrown x_buffered x_given x_isFolding x_work x_rebuilt x_streamed x_reports x_gapFrom x_gapSize x_elements x_wholeSize x_isLaid x_takenMany a_buffer a_length a_bytes a_weight a_live a_size a_list a_moved a_planned a_stream a_reportedEnd a_reportedKeyword a_starts a_keywordAt a_element a_long1 a_head a_tail a_next a_skip a_last a_whole a_edges a_covers a_weighs a_numbers a_takes a_takenAt) → va_S Az s.heap Hz lz → W p l e (headSpec wsX8_containedMatches rm_X8_containedMatches).room s m args below meth c Hz lz 0 0 (MQ below (QW D vwCl (some (.int (iI r))) wz Az) args s 0 0 Az) (F0 m 0 ls [])) s.heap [] hP hD hSz
  intro Hz lz hP hD hSz
  refine lv_aload_n hx hb dX8_containedMatches_0 rfl (lv_at hl 0 rfl) ?_
  refine k_iconst (n := 0) hx hb dX8_containedMatches_1 ?_
  refine va_put (ci := 8) (v := .int (iI 0)) (ty := .int) (C := RX8) (T := TX8) (N := 42) hx hb hts hiX8 tyX8 tyX8_ok nmX8 hown hK hP hD hSz 0 rfl rfl 0 (by decide) hf1 (fun _ h9 => h9) rfl (by decide +kernel) rfl rfl (Nat.le_of_ble_eq_true rfl) dX8_containedMatches_2 (fun Hz lz hP hD hSz => ?_)
  have hP : va_P D vwCl (wM cI cZ cJ ad 0 x_buffered x_given x_isFolding x_work x_rebuilt x_streamed x_reports x_gapFrom x_gapSize x_elements x_wholeSize x_isLaid x_takenMany a_buffer a_length a_bytes a_weight a_live a_size a_list a_moved a_planned a_stream a_reportedEnd a_reportedKeyword a_starts a_keywordAt a_element a_long1 a_head a_tail a_next a_skip a_last a_whole a_edges a_covers a_weighs a_numbers a_takes a_takenAt) Hz := hP
  have hD : va_D Az (wM cI cZ cJ ad 0 x_buffered x_given x_isFolding x_work x_rebuilt x_streamed x_reports x_gapFrom x_gapSize x_elements x_wholeSize x_isLaid x_takenMany a_buffer a_length a_bytes a_weight a_live a_size a_list a_moved a_planned a_stream a_reportedEnd a_reportedKeyword a_starts a_keywordAt a_element a_long1 a_head a_tail a_next a_skip a_last a_whole a_edges a_covers a_weighs a_numbers a_takes a_takenAt) := hD
  refine lv_aload_n hx hb dX8_containedMatches_5 rfl (lv_at hl 0 rfl) ?_
  obtain ⟨vz1, vz2, hcz, hs⟩ := bd2_some hs
  refine k_wVs (As := []) (rest := []) (st1 := []) (w1 := (wM cI cZ cJ ad 0 x_buffered x_given x_isFolding x_work x_rebuilt x_streamed x_reports x_gapFrom x_gapSize x_elements x_wholeSize x_isLaid x_takenMany a_buffer a_length a_bytes a_weight a_live a_size a_list a_moved a_planned a_stream a_reportedEnd a_reportedKeyword vz1 vz2 a_element a_long1 a_head a_tail a_next a_skip a_last a_whole a_edges a_covers a_weighs a_numbers a_takes a_takenAt)) ⟨hx, hb, hml, hown, hts⟩ hK hP hD hSz hA (c_X8_laysMatches l D cI cZ cJ hcz) (cwV 0 hts gX8_containedMatches_X8_laysMatches rfl rfl rfl (by decide +kernel) ⟨Nat.le_of_ble_eq_true rfl, Nat.le_of_ble_eq_true rfl⟩) 0 rfl rfl rfl rfl rfl hl.1 rfl (lv_room (Nat.le_of_ble_eq_true rfl)) dX8_containedMatches_6 ⟨Nat.zero_le _, Nat.zero_le _⟩ rfl (fun Hz lz hP hD hSz => ?_)
  have hP : va_P D vwCl (wM cI cZ cJ ad 0 x_buffered x_given x_isFolding x_work x_rebuilt x_streamed x_reports x_gapFrom x_gapSize x_elements x_wholeSize x_isLaid x_takenMany a_buffer a_length a_bytes a_weight a_live a_size a_list a_moved a_planned a_stream a_reportedEnd a_reportedKeyword vz1 vz2 a_element a_long1 a_head a_tail a_next a_skip a_last a_whole a_edges a_covers a_weighs a_numbers a_takes a_takenAt) Hz := hP
  have hD : va_D Az (wM cI cZ cJ ad 0 x_buffered x_given x_isFolding x_work x_rebuilt x_streamed x_reports x_gapFrom x_gapSize x_elements x_wholeSize x_isLaid x_takenMany a_buffer a_length a_bytes a_weight a_live a_size a_list a_moved a_planned a_stream a_reportedEnd a_reportedKeyword vz1 vz2 a_element a_long1 a_head a_tail a_next a_skip a_last a_whole a_edges a_covers a_weighs a_numbers a_takes a_takenAt) := hD
  refine k_iconst (n := 0) hx hb dX8_containedMatches_9 ?_
  refine lv_istore_n (lv' := [(1, .int (iI 0)), (0, .ref (ad 0))]) hx hb dX8_containedMatches_10 rfl hl (by decide) rfl (fun ls hl => ?_)
  refine k_iconst (n := 0) hx hb dX8_containedMatches_11 ?_
  refine lv_istore_n (lv' := [(2, .int (iI 0)), (1, .int (iI 0)), (0, .ref (ad 0))]) hx hb dX8_containedMatches_12 rfl hl (by decide) rfl (fun ls hl => ?_)
  obtain ⟨ez6, hq, hs⟩ := bd1_some hs
  refine Lz13 FU 0 vz1 vz2 0 0 ez6 hq Hz lz hP hD hSz ls (lv_sub hl [2, 1, 0] rfl) ?_
  intro Hz lz hP hD hSz ls hl
  refine lv_iload_n hx hb dX8_containedMatches_67 rfl (lv_at hl 0 rfl) ?_
  cases hs
  exact k_iret_w hx hb hr hlk (by rw [hw1]; exact hP) hSz dX8_containedMatches_68 rfl
/-! X8_laysGap -/
set_option maxHeartbeats 4000000 in
set_option maxRecDepth 100000 in
theorem c_X8_laysGap (l : Launch) (D : va_G) (cI cZ cJ : ClassId) {ad : Nat → Nat} {x_thrown : Int} {x_buffered : Int} {x_given : Int} {x_isFolding : Int} {x_work : Int} {x_rebuilt : Int} {x_streamed : Int} {x_reports : Int} {x_gapFrom : Int} {x_gapSize : Int} {x_elements : Int} {x_wholeSize : Int} {x_isLaid : Int} {x_takenMany : Int} {a_buffer : (Int → Int)} {a_length : (Int → Int)} {a_bytes : (Int → Int)} {a_weight : (Int → Int)} {a_live : (Int → Int)} {a_size : (Int → Int)} {a_list : (Int → Int)} {a_moved : (Int → Int)} {a_planned : (Int → Int)} {a_stream : (Int → Int)} {a_reportedEnd : (Int → Int)} {a_reportedKeyword : (Int → Int)} {a_starts : (Int → Int)} {a_keywordAt : (Int → Int)} {a_element : (Int → Int)} {a_long1 : (Int → Int)} {a_head : (Int → Int)} {a_tail : (Int → Int)} {a_next : (Int → Int)} {a_skip : (Int → Int)} {a_last : (Int → Int)} {a_whole : (Int → Int)} {a_edges : (Int → Int)} {a_covers : (Int → Int)} {a_weighs : (Int → Int)} {a_numbers : (Int → Int)} {a_takes : (Int → Int)} {a_takenAt : (Int → Int)} {y_x_gapFrom : Int} {y_x_gapSize : Int} {y_a_starts : (Int → Int)} {y_a_keywordAt : (Int → Int)} {sz : Nat} (hs : s_X8_laysGap x_given x_isFolding x_streamed x_gapFrom x_gapSize a_length a_bytes a_live a_stream a_starts a_keywordAt = some (y_x_gapFrom, y_x_gapSize, y_a_starts, y_a_keywordAt)) : Met l yX8_laysGap wsX8_laysGap rm_X8_laysGap (PW D vwCl [(cI, .int), (cZ, .boolean), (cJ, .long)] [.ref (ad 0)] (wM cI cZ cJ ad x_thrown x_buffered x_given x_isFolding x_work x_rebuilt x_streamed x_reports x_gapFrom x_gapSize x_elements x_wholeSize x_isLaid x_takenMany a_buffer a_length a_bytes a_weight a_live a_size a_list a_moved a_planned a_stream a_reportedEnd a_reportedKeyword a_starts a_keywordAt a_element a_long1 a_head a_tail a_next a_skip a_last a_whole a_edges a_covers a_weighs a_numbers a_takes a_takenAt) sz) (QW D vwCl none (wM cI cZ cJ ad x_thrown x_buffered x_given x_isFolding x_work x_rebuilt x_streamed x_reports y_x_gapFrom y_x_gapSize x_elements x_wholeSize x_isLaid x_takenMany a_buffer a_length a_bytes a_weight a_live a_size a_list a_moved a_planned a_stream a_reportedEnd a_reportedKeyword y_a_starts y_a_keywordAt a_element a_long1 a_head a_tail a_next a_skip a_last a_whole a_edges a_covers a_weighs a_numbers a_takes a_takenAt) (va_A (wM cI cZ cJ ad x_thrown x_buffered x_given x_isFolding x_work x_rebuilt x_streamed x_reports x_gapFrom x_gapSize x_elements x_wholeSize x_isLaid x_takenMany a_buffer a_length a_bytes a_weight a_live a_size a_list a_moved a_planned a_stream a_reportedEnd a_reportedKeyword a_starts a_keywordAt a_element a_long1 a_head a_tail a_next a_skip a_last a_whole a_edges a_covers a_weighs a_numbers a_takes a_takenAt) sz)) 0 0 (va_A (wM cI cZ cJ ad x_thrown x_buffered x_given x_isFolding x_work x_rebuilt x_streamed x_reports x_gapFrom x_gapSize x_elements x_wholeSize x_isLaid x_takenMany a_buffer a_length a_bytes a_weight a_live a_size a_list a_moved a_planned a_stream a_reportedEnd a_reportedKeyword a_starts a_keywordAt a_element a_long1 a_head a_tail a_next a_skip a_last a_whole a_edges a_covers a_weighs a_numbers a_takes a_takenAt) sz) := by
  refine Met.ofW (cc := cX8_laysGap) (maxL := 5) (ret := none) (by decide) rfl ?_
  intro p e s m args below meth c s₁ B hml hv
  obtain ⟨hav, hsz, hP, hK, hD0⟩ := hv
  have hx := B.exec
  have hb := B.bytes
  have hr := B.returns
  have hts := atoms_spec (ws := wsX8_laysGap) B.pre
  have hown : s.vm.findClass RX8 = some m.cls := findClass_of_methodNamed B.named
  have hlk := B.notSynchronized
  have hf221 : (Cond.fieldLink RX8 221 "KeywordMatcherModel" "gapFrom" "I").before args s = true := hts _ (List.mem_of_getElem? (i := 1) rfl)
  have hiX8 : ∀ w ∈ wsX80, w ∈ wsX8_laysGap := fun w h => List.mem_cons_of_mem _ (List.mem_append_right _ h)
  have hf224 : (Cond.fieldLink RX8 224 "KeywordMatcherModel" "gapSize" "I").before args s = true := hts _ (List.mem_of_getElem? (i := 2) rfl)
  have hf170 : (Cond.fieldLink RX8 170 "KeywordMatcherModel" "streamed" "I").before args s = true := hts _ (List.mem_of_getElem? (i := 3) rfl)
  subst hsz
  have hD := hD0.self (sz := s.heap.size)
  generalize hAe : va_A (wM cI cZ cJ ad x_thrown x_buffered x_given x_isFolding x_work x_rebuilt x_streamed x_reports x_gapFrom x_gapSize x_elements x_wholeSize x_isLaid x_takenMany a_buffer a_length a_bytes a_weight a_live a_size a_list a_moved a_planned a_stream a_reportedEnd a_reportedKeyword a_starts a_keywordAt a_element a_long1 a_head a_tail a_next a_skip a_last a_whole a_edges a_covers a_weighs a_numbers a_takes a_takenAt) s.heap.size = Az at hD ⊢
  have hA : ∀ q : Nat, s.heap.size ≤ q → Az q := fun q h => by rw [← hAe]; exact Or.inr h
  clear hAe
  have hSz : va_S Az s.heap s.heap [] := va_S.rf
  obtain ⟨wz, hw1⟩ : ∃ z : va_W, z = (wM cI cZ cJ ad x_thrown x_buffered x_given x_isFolding x_work x_rebuilt x_streamed x_reports y_x_gapFrom y_x_gapSize x_elements x_wholeSize x_isLaid x_takenMany a_buffer a_length a_bytes a_weight a_live a_size a_list a_moved a_planned a_stream a_reportedEnd a_reportedKeyword y_a_starts y_a_keywordAt a_element a_long1 a_head a_tail a_next a_skip a_last a_whole a_edges a_covers a_weighs a_numbers a_takes a_takenAt) := ⟨_, rfl⟩
  rw [← hw1]
  have hl := lv_entry ([.ref (ad 0)]) (n := 5) (Nat.le_of_ble_eq_true rfl)
  rw [show entryFrame m args 5 = entryFrame m ([.ref (ad 0)] : List Value).toArray 5 from by rw [hav], lg_entry_eq]
  generalize (lg_sl ([.ref (ad 0)]) ++ List.replicate (5 - (lg_sl ([.ref (ad 0)])).length) Slot.unset).toArray = ls at hl ⊢
  have hl : lv_has ls 5 [(0, .ref (ad 0))] := hl
  unfold s_X8_laysGap at hs
  have Lz31 : ∀ (fu : Nat) (x_gapFrom : Int) (x_gapSize : Int) (a_starts : (Int → Int)) (a_keywordAt : (Int → Int)) (l1 : Int) (l2 : Int) (l3 : Int) (l4 : Int) (y0 : Int), s_X8_laysGap_31 fu a_starts l1 l2 l3 l4 = some y0 → ∀ (Hz : Heap) (lz : List Loc), va_P D vwCl (wM cI cZ cJ ad x_thrown x_buffered x_given x_isFolding x_work x_rebuilt x_streamed x_reports x_gapFrom x_gapSize x_elements x_wholeSize x_isLaid x_takenMany a_buffer a_length a_bytes a_weight a_live a_size a_list a_moved a_planned a_stream a_reportedEnd a_reportedKeyword a_starts a_keywordAt a_element a_long1 a_head a_tail a_next a_skip a_last a_whole a_edges a_covers a_weighs a_numbers a_takes a_takenAt) Hz → va_D Az (wM cI cZ cJ ad x_thrown x_buffered x_given x_isFolding x_work x_rebuilt x_streamed x_reports x_gapFrom x_gapSize x_elements x_wholeSize x_isLaid x_takenMany a_buffer a_length a_bytes a_weight a_live a_size a_list a_moved a_planned a_stream a_reportedEnd a_reportedKeyword a_starts a_keywordAt a_element a_long1 a_head a_tail a_next a_skip a_last a_whole a_edges a_covers a_weighs a_numbers a_takes a_takenAt) → va_S Az s.heap Hz lz → ∀ ls : Array Slot, lv_has ls 5 [(0, .ref (ad 0)), (1, .int (iI l1)), (2, .int (iI l2)), (3, .int (iI l3)), (4, .int (iI l4))] → (∀ (Hz : Heap) (lz : List Loc), va_P D vwCl (wM cI cZ cJ ad x_thrown x_buffered x_given x_isFolding x_work x_rebuilt x_streamed x_reports x_gapFrom x_gapSize x_elements x_wholeSize x_isLaid x_takenMany a_buffer a_length a_bytes a_weight a_live a_size a_list a_moved a_planned a_stream a_reportedEnd a_reportedKeyword a_starts a_keywordAt a_element a_long1 a_head a_tail a_next a_skip a_last a_whole a_edges a_covers a_weighs a_numbers a_takes a_takenAt) Hz → va_D Az (wM cI cZ cJ ad x_thrown x_buffered x_given x_isFolding x_work x_rebuilt x_streamed x_reports x_gapFrom x_gapSize x_elements x_wholeSize x_isLaid x_takenMany a_buffer a_length a_bytes a_weight a_live a_size a_list a_moved a_planned a_stream a_reportedEnd a_reportedKeyword a_starts a_keywordAt a_element a_long1 a_head a_tail a_next a_skip a_last a_whole a_edges a_covers a_weighs a_numbers a_takes a_takenAt) → va_S Az s.heap Hz lz → ∀ ls : Array Slot, lv_has ls 5 [(0, .ref (ad 0)), (1, .int (iI y0)), (2, .int (iI l2)), (3, .int (iI l3))] → W p l e (headSpec wsX8_laysGap rm_X8_laysGap).room s m args below meth c Hz lz 0 0 (MQ below (QW D vwCl none wz Az) args s 0 0 Az) (F0 m 67 ls [])) → W p l e (headSpec wsX8_laysGap rm_X8_laysGap).room s m args below meth c Hz lz 0 0 (MQ below (QW D vwCl none wz Az) args s 0 0 Az) (F0 m 31 ls []) := by
    intro fu
    induction fu with
    | zero => intro x_gapFrom x_gapSize a_starts a_keywordAt l1 l2 l3 l4 y0 hs; cases hs
    | succ fu ih =>
      intro x_gapFrom x_gapSize a_starts a_keywordAt l1 l2 l3 l4 y0 hs Hz lz hP hD hSz ls hl kx
      rw [s_X8_laysGap_31_s] at hs
      refine lv_iload hx hb dX8_laysGap_31 (lv_at hl 4 rfl) ?_
      refine k_bipush (n := 16) hx hb (by decide) dX8_laysGap_33 ?_
      refine k_icmp_gt (tgt := 67) hx hb hs dX8_laysGap_35 (by decide) (fun hs => ?_) (fun hs => ?_)
      · cases hs
        exact kx Hz lz hP hD hSz ls (lv_sub hl [0, 1, 2, 3] rfl)
      · refine lv_aload_n hx hb dX8_laysGap_38 rfl (lv_at hl 0 rfl) ?_
        refine lv_iload_n hx hb dX8_laysGap_39 rfl (lv_at hl 3 rfl) ?_
        refine lv_iload hx hb dX8_laysGap_40 (lv_at hl 4 rfl) ?_
        obtain ⟨vz3, hcz, hs⟩ := bd1_some hs
        refine k_rV (As := [.int (iI l3), .int (iI l4)]) (rest := []) (st1 := [.int (iI vz3)]) ⟨hx, hb, hml, hown, hts⟩ hK hP (c_X8_hasAt l D cI cZ cJ hcz) (cwV 2 hts gX8_laysGap_X8_hasAt rfl rfl rfl (by decide +kernel) ⟨Nat.le_of_ble_eq_true rfl, Nat.le_of_ble_eq_true rfl⟩) 0 rfl rfl rfl rfl hl.1 rfl (lv_room (Nat.le_of_ble_eq_true rfl)) dX8_laysGap_42 ⟨Nat.zero_le _, Nat.zero_le _⟩ rfl ?_
        refine k_if_eq (tgt := 61) hx hb hs dX8_laysGap_45 (by decide) (fun hs => ?_) (fun hs => ?_)
        · refine k_iinc (x := l4) (k := 4) (lv' := [(4, .int (iI (l4 + 1))), (0, .ref (ad 0)), (1, .int (iI l1)), (2, .int (iI l2)), (3, .int (iI l3))]) hx hb dX8_laysGap_61 hl rfl (by decide) rfl (fun ls hl => ?_)
          refine lv_goto (tgt := 31) hx hb dX8_laysGap_64 (by decide) ?_
          exact ih x_gapFrom x_gapSize a_starts a_keywordAt l1 l2 l3 (l4 + 1) y0 hs Hz lz hP hD hSz ls (lv_sub hl [1, 2, 3, 4, 0] rfl) kx
        · refine lv_iload_n hx hb dX8_laysGap_48 rfl (lv_at hl 3 rfl) ?_
          refine lv_iload hx hb dX8_laysGap_49 (lv_at hl 4 rfl) ?_
          refine k_iadd hx hb dX8_laysGap_51 ?_
          refine lv_iload_n hx hb dX8_laysGap_52 rfl (lv_at hl 1 rfl) ?_
          refine k_icmp_le (tgt := 61) hx hb hs dX8_laysGap_53 (by decide) (fun hs => ?_) (fun hs => ?_)
          · refine lv_iload_n hx hb dX8_laysGap_56 rfl (lv_at hl 3 rfl) ?_
            refine lv_iload hx hb dX8_laysGap_57 (lv_at hl 4 rfl) ?_
            refine k_iadd hx hb dX8_laysGap_59 ?_
            refine lv_istore_n (lv' := [(1, .int (iI (l3 + l4))), (0, .ref (ad 0)), (2, .int (iI l2)), (3, .int (iI l3)), (4, .int (iI l4))]) hx hb dX8_laysGap_60 rfl hl (by decide) rfl (fun ls hl => ?_)
            refine k_iinc (x := l4) (k := 4) (lv' := [(4, .int (iI (l4 + 1))), (1, .int (iI (l3 + l4))), (0, .ref (ad 0)), (2, .int (iI l2)), (3, .int (iI l3))]) hx hb dX8_laysGap_61 hl rfl (by decide) rfl (fun ls hl => ?_)
            refine lv_goto (tgt := 31) hx hb dX8_laysGap_64 (by decide) ?_
            exact ih x_gapFrom x_gapSize a_starts a_keywordAt (l3 + l4) l2 l3 (l4 + 1) y0 hs Hz lz hP hD hSz ls (lv_sub hl [2, 1, 3, 4, 0] rfl) kx
          · refine k_iinc (x := l4) (k := 4) (lv' := [(4, .int (iI (l4 + 1))), (0, .ref (ad 0)), (1, .int (iI l1)), (2, .int (iI l2)), (3, .int (iI l3))]) hx hb dX8_laysGap_61 hl rfl (by decide) rfl (fun ls hl => ?_)
            refine lv_goto (tgt := 31) hx hb dX8_laysGap_64 (by decide) ?_
            exact ih x_gapFrom x_gapSize a_starts a_keywordAt l1 l2 l3 (l4 + 1) y0 hs Hz lz hP hD hSz ls (lv_sub hl [1, 2, 3, 4, 0] rfl) kx
  have Lz20 : ∀ (fu : Nat) (x_gapFrom : Int) (x_gapSize : Int) (a_starts : (Int → Int)) (a_keywordAt : (Int → Int)) (l1 : Int) (l2 : Int) (l3 : Int) (y0 : Int) (y1 : Int), s_X8_laysGap_20 fu x_streamed x_gapFrom x_gapSize a_starts l1 l2 l3 = some (y0, y1) → ∀ (Hz : Heap) (lz : List Loc), va_P D vwCl (wM cI cZ cJ ad x_thrown x_buffered x_given x_isFolding x_work x_rebuilt x_streamed x_reports x_gapFrom x_gapSize x_elements x_wholeSize x_isLaid x_takenMany a_buffer a_length a_bytes a_weight a_live a_size a_list a_moved a_planned a_stream a_reportedEnd a_reportedKeyword a_starts a_keywordAt a_element a_long1 a_head a_tail a_next a_skip a_last a_whole a_edges a_covers a_weighs a_numbers a_takes a_takenAt) Hz → va_D Az (wM cI cZ cJ ad x_thrown x_buffered x_given x_isFolding x_work x_rebuilt x_streamed x_reports x_gapFrom x_gapSize x_elements x_wholeSize x_isLaid x_takenMany a_buffer a_length a_bytes a_weight a_live a_size a_list a_moved a_planned a_stream a_reportedEnd a_reportedKeyword a_starts a_keywordAt a_element a_long1 a_head a_tail a_next a_skip a_last a_whole a_edges a_covers a_weighs a_numbers a_takes a_takenAt) → va_S Az s.heap Hz lz → ∀ ls : Array Slot, lv_has ls 5 [(0, .ref (ad 0)), (1, .int (iI l1)), (2, .int (iI l2)), (3, .int (iI l3))] → (∀ (Hz : Heap) (lz : List Loc), va_P D vwCl (wM cI cZ cJ ad x_thrown x_buffered x_given x_isFolding x_work x_rebuilt x_streamed x_reports y0 y1 x_elements x_wholeSize x_isLaid x_takenMany a_buffer a_length a_bytes a_weight a_live a_size a_list a_moved a_planned a_stream a_reportedEnd a_reportedKeyword a_starts a_keywordAt a_element a_long1 a_head a_tail a_next a_skip a_last a_whole a_edges a_covers a_weighs a_numbers a_takes a_takenAt) Hz → va_D Az (wM cI cZ cJ ad x_thrown x_buffered x_given x_isFolding x_work x_rebuilt x_streamed x_reports y0 y1 x_elements x_wholeSize x_isLaid x_takenMany a_buffer a_length a_bytes a_weight a_live a_size a_list a_moved a_planned a_stream a_reportedEnd a_reportedKeyword a_starts a_keywordAt a_element a_long1 a_head a_tail a_next a_skip a_last a_whole a_edges a_covers a_weighs a_numbers a_takes a_takenAt) → va_S Az s.heap Hz lz → ∀ ls : Array Slot, lv_has ls 5 [] → W p l e (headSpec wsX8_laysGap rm_X8_laysGap).room s m args below meth c Hz lz 0 0 (MQ below (QW D vwCl none wz Az) args s 0 0 Az) (F0 m 111 ls [])) → W p l e (headSpec wsX8_laysGap rm_X8_laysGap).room s m args below meth c Hz lz 0 0 (MQ below (QW D vwCl none wz Az) args s 0 0 Az) (F0 m 20 ls []) := by
    intro fu
    induction fu with
    | zero => intro x_gapFrom x_gapSize a_starts a_keywordAt l1 l2 l3 y0 y1 hs; cases hs
    | succ fu ih =>
      intro x_gapFrom x_gapSize a_starts a_keywordAt l1 l2 l3 y0 y1 hs Hz lz hP hD hSz ls hl kx
      rw [s_X8_laysGap_20_s] at hs
      refine lv_iload_n hx hb dX8_laysGap_20 rfl (lv_at hl 3 rfl) ?_
      refine lv_aload_n hx hb dX8_laysGap_21 rfl (lv_at hl 0 rfl) ?_
      refine va_get (ci := 8) (v := .int (iI x_streamed)) (C := RX8) (T := TX8) (N := 42) hx hb hts hiX8 hown hK hP 0 rfl rfl 18 (by decide) hf170 (fun _ h9 => h9) rfl dX8_laysGap_22 ?_
      refine k_icmp_ge (tgt := 111) hx hb hs dX8_laysGap_25 (by decide) (fun hs => ?_) (fun hs => ?_)
      · refine k_iconst (n := 1) hx hb dX8_laysGap_28 ?_
        refine lv_istore (lv' := [(4, .int (iI 1)), (0, .ref (ad 0)), (1, .int (iI l1)), (2, .int (iI l2)), (3, .int (iI l3))]) hx hb dX8_laysGap_29 hl (by decide) rfl (fun ls hl => ?_)
        obtain ⟨ez4, hq, hs⟩ := bd1_some hs
        refine Lz31 FU x_gapFrom x_gapSize a_starts a_keywordAt l1 l2 l3 1 ez4 hq Hz lz hP hD hSz ls (lv_sub hl [1, 2, 3, 4, 0] rfl) ?_
        intro Hz lz hP hD hSz ls hl
        refine lv_iload_n hx hb dX8_laysGap_67 rfl (lv_at hl 1 rfl) ?_
        refine lv_iload_n hx hb dX8_laysGap_68 rfl (lv_at hl 3 rfl) ?_
        refine k_icmp_le (tgt := 76) hx hb hs dX8_laysGap_69 (by decide) (fun hs => ?_) (fun hs => ?_)
        · refine lv_iload_n hx hb dX8_laysGap_72 rfl (lv_at hl 3 rfl) ?_
          refine k_iconst (n := 1) hx hb dX8_laysGap_73 ?_
          refine k_iadd hx hb dX8_laysGap_74 ?_
          refine lv_istore_n (lv' := [(2, .int (iI (l3 + 1))), (0, .ref (ad 0)), (1, .int (iI ez4)), (3, .int (iI l3))]) hx hb dX8_laysGap_75 rfl hl (by decide) rfl (fun ls hl => ?_)
          refine lv_iload_n hx hb dX8_laysGap_76 rfl (lv_at hl 3 rfl) ?_
          refine k_iconst (n := 1) hx hb dX8_laysGap_77 ?_
          refine k_iadd hx hb dX8_laysGap_78 ?_
          refine lv_iload_n hx hb dX8_laysGap_79 rfl (lv_at hl 0 rfl) ?_
          refine k_isub hx hb dX8_laysGap_80 ?_
          refine lv_aload_n hx hb dX8_laysGap_81 rfl (lv_at hl 1 rfl) ?_
          refine va_get (ci := 8) (v := .int (iI x_gapSize)) (C := RX8) (T := TX8) (N := 42) hx hb hts hiX8 hown hK hP 0 rfl rfl 23 (by decide) hf224 (fun _ h9 => h9) rfl dX8_laysGap_82 ?_
          refine k_icmp_gt (tgt := 91) hx hb hs dX8_laysGap_85 (by decide) (fun hs => ?_) (fun hs => ?_)
          · refine lv_aload_n hx hb dX8_laysGap_91 rfl (lv_at hl 1 rfl) ?_
            refine lv_iload_n hx hb dX8_laysGap_92 rfl (lv_at hl 0 rfl) ?_
            refine va_put (ci := 8) (v := .int (iI (l3 + 1))) (ty := .int) (C := RX8) (T := TX8) (N := 42) hx hb hts hiX8 tyX8 tyX8_ok nmX8 hown hK hP hD hSz 0 rfl rfl 22 (by decide) hf221 (fun _ h9 => h9) rfl (by decide +kernel) rfl rfl (Nat.le_of_ble_eq_true rfl) dX8_laysGap_93 (fun Hz lz hP hD hSz => ?_)
            have hP : va_P D vwCl (wM cI cZ cJ ad x_thrown x_buffered x_given x_isFolding x_work x_rebuilt x_streamed x_reports (l3 + 1) x_gapSize x_elements x_wholeSize x_isLaid x_takenMany a_buffer a_length a_bytes a_weight a_live a_size a_list a_moved a_planned a_stream a_reportedEnd a_reportedKeyword a_starts a_keywordAt a_element a_long1 a_head a_tail a_next a_skip a_last a_whole a_edges a_covers a_weighs a_numbers a_takes a_takenAt) Hz := hP
            have hD : va_D Az (wM cI cZ cJ ad x_thrown x_buffered x_given x_isFolding x_work x_rebuilt x_streamed x_reports (l3 + 1) x_gapSize x_elements x_wholeSize x_isLaid x_takenMany a_buffer a_length a_bytes a_weight a_live a_size a_list a_moved a_planned a_stream a_reportedEnd a_reportedKeyword a_starts a_keywordAt a_element a_long1 a_head a_tail a_next a_skip a_last a_whole a_edges a_covers a_weighs a_numbers a_takes a_takenAt) := hD
            refine lv_aload_n hx hb dX8_laysGap_96 rfl (lv_at hl 1 rfl) ?_
            refine lv_iload_n hx hb dX8_laysGap_97 rfl (lv_at hl 3 rfl) ?_
            refine k_iconst (n := 1) hx hb dX8_laysGap_98 ?_
            refine k_iadd hx hb dX8_laysGap_99 ?_
            refine lv_iload_n hx hb dX8_laysGap_100 rfl (lv_at hl 0 rfl) ?_
            refine k_isub hx hb dX8_laysGap_101 ?_
            refine va_put (ci := 8) (v := .int (iI ((l3 + 1) - (l3 + 1)))) (ty := .int) (C := RX8) (T := TX8) (N := 42) hx hb hts hiX8 tyX8 tyX8_ok nmX8 hown hK hP hD hSz 0 rfl rfl 23 (by decide) hf224 (fun _ h9 => h9) rfl (by decide +kernel) rfl rfl (Nat.le_of_ble_eq_true rfl) dX8_laysGap_102 (fun Hz lz hP hD hSz => ?_)
            have hP : va_P D vwCl (wM cI cZ cJ ad x_thrown x_buffered x_given x_isFolding x_work x_rebuilt x_streamed x_reports (l3 + 1) ((l3 + 1) - (l3 + 1)) x_elements x_wholeSize x_isLaid x_takenMany a_buffer a_length a_bytes a_weight a_live a_size a_list a_moved a_planned a_stream a_reportedEnd a_reportedKeyword a_starts a_keywordAt a_element a_long1 a_head a_tail a_next a_skip a_last a_whole a_edges a_covers a_weighs a_numbers a_takes a_takenAt) Hz := hP
            have hD : va_D Az (wM cI cZ cJ ad x_thrown x_buffered x_given x_isFolding x_work x_rebuilt x_streamed x_reports (l3 + 1) ((l3 + 1) - (l3 + 1)) x_elements x_wholeSize x_isLaid x_takenMany a_buffer a_length a_bytes a_weight a_live a_size a_list a_moved a_planned a_stream a_reportedEnd a_reportedKeyword a_starts a_keywordAt a_element a_long1 a_head a_tail a_next a_skip a_last a_whole a_edges a_covers a_weighs a_numbers a_takes a_takenAt) := hD
            refine k_iinc (x := l3) (k := 3) (lv' := [(3, .int (iI (l3 + 1))), (2, .int (iI (l3 + 1))), (0, .ref (ad 0)), (1, .int (iI ez4))]) hx hb dX8_laysGap_105 hl rfl (by decide) rfl (fun ls hl => ?_)
            refine lv_goto (tgt := 20) hx hb dX8_laysGap_108 (by decide) ?_
            exact ih (l3 + 1) ((l3 + 1) - (l3 + 1)) a_starts a_keywordAt ez4 (l3 + 1) (l3 + 1) y0 y1 hs Hz lz hP hD hSz ls (lv_sub hl [2, 3, 1, 0] rfl) kx
          · refine lv_goto (tgt := 105) hx hb dX8_laysGap_88 (by decide) ?_
            refine k_iinc (x := l3) (k := 3) (lv' := [(3, .int (iI (l3 + 1))), (2, .int (iI (l3 + 1))), (0, .ref (ad 0)), (1, .int (iI ez4))]) hx hb dX8_laysGap_105 hl rfl (by decide) rfl (fun ls hl => ?_)
            refine lv_goto (tgt := 20) hx hb dX8_laysGap_108 (by decide) ?_
            exact ih x_gapFrom x_gapSize a_starts a_keywordAt ez4 (l3 + 1) (l3 + 1) y0 y1 hs Hz lz hP hD hSz ls (lv_sub hl [2, 3, 1, 0] rfl) kx
        · refine lv_iload_n hx hb dX8_laysGap_76 rfl (lv_at hl 3 rfl) ?_
          refine k_iconst (n := 1) hx hb dX8_laysGap_77 ?_
          refine k_iadd hx hb dX8_laysGap_78 ?_
          refine lv_iload_n hx hb dX8_laysGap_79 rfl (lv_at hl 2 rfl) ?_
          refine k_isub hx hb dX8_laysGap_80 ?_
          refine lv_aload_n hx hb dX8_laysGap_81 rfl (lv_at hl 0 rfl) ?_
          refine va_get (ci := 8) (v := .int (iI x_gapSize)) (C := RX8) (T := TX8) (N := 42) hx hb hts hiX8 hown hK hP 0 rfl rfl 23 (by decide) hf224 (fun _ h9 => h9) rfl dX8_laysGap_82 ?_
          refine k_icmp_gt (tgt := 91) hx hb hs dX8_laysGap_85 (by decide) (fun hs => ?_) (fun hs => ?_)
          · refine lv_aload_n hx hb dX8_laysGap_91 rfl (lv_at hl 0 rfl) ?_
            refine lv_iload_n hx hb dX8_laysGap_92 rfl (lv_at hl 2 rfl) ?_
            refine va_put (ci := 8) (v := .int (iI l2)) (ty := .int) (C := RX8) (T := TX8) (N := 42) hx hb hts hiX8 tyX8 tyX8_ok nmX8 hown hK hP hD hSz 0 rfl rfl 22 (by decide) hf221 (fun _ h9 => h9) rfl (by decide +kernel) rfl rfl (Nat.le_of_ble_eq_true rfl) dX8_laysGap_93 (fun Hz lz hP hD hSz => ?_)
            have hP : va_P D vwCl (wM cI cZ cJ ad x_thrown x_buffered x_given x_isFolding x_work x_rebuilt x_streamed x_reports l2 x_gapSize x_elements x_wholeSize x_isLaid x_takenMany a_buffer a_length a_bytes a_weight a_live a_size a_list a_moved a_planned a_stream a_reportedEnd a_reportedKeyword a_starts a_keywordAt a_element a_long1 a_head a_tail a_next a_skip a_last a_whole a_edges a_covers a_weighs a_numbers a_takes a_takenAt) Hz := hP
            have hD : va_D Az (wM cI cZ cJ ad x_thrown x_buffered x_given x_isFolding x_work x_rebuilt x_streamed x_reports l2 x_gapSize x_elements x_wholeSize x_isLaid x_takenMany a_buffer a_length a_bytes a_weight a_live a_size a_list a_moved a_planned a_stream a_reportedEnd a_reportedKeyword a_starts a_keywordAt a_element a_long1 a_head a_tail a_next a_skip a_last a_whole a_edges a_covers a_weighs a_numbers a_takes a_takenAt) := hD
            refine lv_aload_n hx hb dX8_laysGap_96 rfl (lv_at hl 0 rfl) ?_
            refine lv_iload_n hx hb dX8_laysGap_97 rfl (lv_at hl 3 rfl) ?_
            refine k_iconst (n := 1) hx hb dX8_laysGap_98 ?_
            refine k_iadd hx hb dX8_laysGap_99 ?_
            refine lv_iload_n hx hb dX8_laysGap_100 rfl (lv_at hl 2 rfl) ?_
            refine k_isub hx hb dX8_laysGap_101 ?_
            refine va_put (ci := 8) (v := .int (iI ((l3 + 1) - l2))) (ty := .int) (C := RX8) (T := TX8) (N := 42) hx hb hts hiX8 tyX8 tyX8_ok nmX8 hown hK hP hD hSz 0 rfl rfl 23 (by decide) hf224 (fun _ h9 => h9) rfl (by decide +kernel) rfl rfl (Nat.le_of_ble_eq_true rfl) dX8_laysGap_102 (fun Hz lz hP hD hSz => ?_)
            have hP : va_P D vwCl (wM cI cZ cJ ad x_thrown x_buffered x_given x_isFolding x_work x_rebuilt x_streamed x_reports l2 ((l3 + 1) - l2) x_elements x_wholeSize x_isLaid x_takenMany a_buffer a_length a_bytes a_weight a_live a_size a_list a_moved a_planned a_stream a_reportedEnd a_reportedKeyword a_starts a_keywordAt a_element a_long1 a_head a_tail a_next a_skip a_last a_whole a_edges a_covers a_weighs a_numbers a_takes a_takenAt) Hz := hP
            have hD : va_D Az (wM cI cZ cJ ad x_thrown x_buffered x_given x_isFolding x_work x_rebuilt x_streamed x_reports l2 ((l3 + 1) - l2) x_elements x_wholeSize x_isLaid x_takenMany a_buffer a_length a_bytes a_weight a_live a_size a_list a_moved a_planned a_stream a_reportedEnd a_reportedKeyword a_starts a_keywordAt a_element a_long1 a_head a_tail a_next a_skip a_last a_whole a_edges a_covers a_weighs a_numbers a_takes a_takenAt) := hD
            refine k_iinc (x := l3) (k := 3) (lv' := [(3, .int (iI (l3 + 1))), (0, .ref (ad 0)), (1, .int (iI ez4)), (2, .int (iI l2))]) hx hb dX8_laysGap_105 hl rfl (by decide) rfl (fun ls hl => ?_)
            refine lv_goto (tgt := 20) hx hb dX8_laysGap_108 (by decide) ?_
            exact ih l2 ((l3 + 1) - l2) a_starts a_keywordAt ez4 l2 (l3 + 1) y0 y1 hs Hz lz hP hD hSz ls (lv_sub hl [1, 2, 3, 0] rfl) kx
          · refine lv_goto (tgt := 105) hx hb dX8_laysGap_88 (by decide) ?_
            refine k_iinc (x := l3) (k := 3) (lv' := [(3, .int (iI (l3 + 1))), (0, .ref (ad 0)), (1, .int (iI ez4)), (2, .int (iI l2))]) hx hb dX8_laysGap_105 hl rfl (by decide) rfl (fun ls hl => ?_)
            refine lv_goto (tgt := 20) hx hb dX8_laysGap_108 (by decide) ?_
            exact ih x_gapFrom x_gapSize a_starts a_keywordAt ez4 l2 (l3 + 1) y0 y1 hs Hz lz hP hD hSz ls (lv_sub hl [1, 2, 3, 0] rfl) kx
      · cases hs
        exact kx Hz lz hP hD hSz ls (lv_sub hl [] rfl)
  refine (?_ : ∀ (Hz : Heap) (lz : List Loc), va_P D vwCl (wM cI cZ cJ ad x_thrown x_buffered x_given x_isFolding x_work x_rebuilt x_streamed x_reports x_gapFrom x_gapSize x_elements x_wholeSize x_isLaid x_takenMany a_buffer a_length a_bytes a_weight a_live a_size a_list a_moved a_planned a_stream a_reportedEnd a_reportedKeyword a_starts a_keywordAt a_element a_long1 a_head a_tail a_next a_skip a_last a_whole a_edges a_covers a_weighs a_numbers a_takes a_takenAt) Hz → va_D Az (wM cI cZ cJ ad x_thrown x_buffered x_given x_isFolding x_work x_rebuilt x_streamed x_reports x_gapFrom x_gapSize x_elements x_wholeSize x_isLaid x_takenMany a_buffer a_length a_bytes a_weight a_live a_size a_list a_moved a_planned a_stream a_reportedEnd a_reportedKeyword a_starts a_keywordAt a_element a_long1 a_head a_tail a_next a_skip a_last a_whole a_edges a_covers a_weighs a_numbers a_takes a_takenAt) → va_S Az s.heap Hz lz → W p l e (headSpec wsX8_laysGap rm_X8_laysGap).room s m args below meth c Hz lz 0 0 (MQ below (QW D vwCl none wz Az) args s 0 0 Az) (F0 m 0 ls [])) s.heap [] hP hD hSz
  intro Hz lz hP hD hSz
  refine lv_aload_n hx hb dX8_laysGap_0 rfl (lv_at hl 0 rfl) ?_
  obtain ⟨vz1, vz2, hcz, hs⟩ := bd2_some hs
  refine k_wVs (As := []) (rest := []) (st1 := []) (w1 := (wM cI cZ cJ ad x_thrown x_buffered x_given x_isFolding x_work x_rebuilt x_streamed x_reports x_gapFrom x_gapSize x_elements x_wholeSize x_isLaid x_takenMany a_buffer a_length a_bytes a_weight a_live a_size a_list a_moved a_planned a_stream a_reportedEnd a_reportedKeyword vz1 vz2 a_element a_long1 a_head a_tail a_next a_skip a_last a_whole a_edges a_covers a_weighs a_numbers a_takes a_takenAt)) ⟨hx, hb, hml, hown, hts⟩ hK hP hD hSz hA (c_X8_laysMatches l D cI cZ cJ hcz) (cwV 0 hts gX8_laysGap_X8_laysMatches rfl rfl rfl (by decide +kernel) ⟨Nat.le_of_ble_eq_true rfl, Nat.le_of_ble_eq_true rfl⟩) 0 rfl rfl rfl rfl rfl hl.1 rfl (lv_room (Nat.le_of_ble_eq_true rfl)) dX8_laysGap_1 ⟨Nat.zero_le _, Nat.zero_le _⟩ rfl (fun Hz lz hP hD hSz => ?_)
  have hP : va_P D vwCl (wM cI cZ cJ ad x_thrown x_buffered x_given x_isFolding x_work x_rebuilt x_streamed x_reports x_gapFrom x_gapSize x_elements x_wholeSize x_isLaid x_takenMany a_buffer a_length a_bytes a_weight a_live a_size a_list a_moved a_planned a_stream a_reportedEnd a_reportedKeyword vz1 vz2 a_element a_long1 a_head a_tail a_next a_skip a_last a_whole a_edges a_covers a_weighs a_numbers a_takes a_takenAt) Hz := hP
  have hD : va_D Az (wM cI cZ cJ ad x_thrown x_buffered x_given x_isFolding x_work x_rebuilt x_streamed x_reports x_gapFrom x_gapSize x_elements x_wholeSize x_isLaid x_takenMany a_buffer a_length a_bytes a_weight a_live a_size a_list a_moved a_planned a_stream a_reportedEnd a_reportedKeyword vz1 vz2 a_element a_long1 a_head a_tail a_next a_skip a_last a_whole a_edges a_covers a_weighs a_numbers a_takes a_takenAt) := hD
  refine lv_aload_n hx hb dX8_laysGap_4 rfl (lv_at hl 0 rfl) ?_
  refine k_iconst (n := (-1)) hx hb dX8_laysGap_5 ?_
  refine va_put (ci := 8) (v := .int (iI (-1))) (ty := .int) (C := RX8) (T := TX8) (N := 42) hx hb hts hiX8 tyX8 tyX8_ok nmX8 hown hK hP hD hSz 0 rfl rfl 22 (by decide) hf221 (fun _ h9 => h9) rfl (by decide +kernel) rfl rfl (Nat.le_of_ble_eq_true rfl) dX8_laysGap_6 (fun Hz lz hP hD hSz => ?_)
  have hP : va_P D vwCl (wM cI cZ cJ ad x_thrown x_buffered x_given x_isFolding x_work x_rebuilt x_streamed x_reports (-1) x_gapSize x_elements x_wholeSize x_isLaid x_takenMany a_buffer a_length a_bytes a_weight a_live a_size a_list a_moved a_planned a_stream a_reportedEnd a_reportedKeyword vz1 vz2 a_element a_long1 a_head a_tail a_next a_skip a_last a_whole a_edges a_covers a_weighs a_numbers a_takes a_takenAt) Hz := hP
  have hD : va_D Az (wM cI cZ cJ ad x_thrown x_buffered x_given x_isFolding x_work x_rebuilt x_streamed x_reports (-1) x_gapSize x_elements x_wholeSize x_isLaid x_takenMany a_buffer a_length a_bytes a_weight a_live a_size a_list a_moved a_planned a_stream a_reportedEnd a_reportedKeyword vz1 vz2 a_element a_long1 a_head a_tail a_next a_skip a_last a_whole a_edges a_covers a_weighs a_numbers a_takes a_takenAt) := hD
  refine lv_aload_n hx hb dX8_laysGap_9 rfl (lv_at hl 0 rfl) ?_
  refine k_iconst (n := 0) hx hb dX8_laysGap_10 ?_
  refine va_put (ci := 8) (v := .int (iI 0)) (ty := .int) (C := RX8) (T := TX8) (N := 42) hx hb hts hiX8 tyX8 tyX8_ok nmX8 hown hK hP hD hSz 0 rfl rfl 23 (by decide) hf224 (fun _ h9 => h9) rfl (by decide +kernel) rfl rfl (Nat.le_of_ble_eq_true rfl) dX8_laysGap_11 (fun Hz lz hP hD hSz => ?_)
  have hP : va_P D vwCl (wM cI cZ cJ ad x_thrown x_buffered x_given x_isFolding x_work x_rebuilt x_streamed x_reports (-1) 0 x_elements x_wholeSize x_isLaid x_takenMany a_buffer a_length a_bytes a_weight a_live a_size a_list a_moved a_planned a_stream a_reportedEnd a_reportedKeyword vz1 vz2 a_element a_long1 a_head a_tail a_next a_skip a_last a_whole a_edges a_covers a_weighs a_numbers a_takes a_takenAt) Hz := hP
  have hD : va_D Az (wM cI cZ cJ ad x_thrown x_buffered x_given x_isFolding x_work x_rebuilt x_streamed x_reports (-1) 0 x_elements x_wholeSize x_isLaid x_takenMany a_buffer a_length a_bytes a_weight a_live a_size a_list a_moved a_planned a_stream a_reportedEnd a_reportedKeyword vz1 vz2 a_element a_long1 a_head a_tail a_next a_skip a_last a_whole a_edges a_covers a_weighs a_numbers a_takes a_takenAt) := hD
  refine k_iconst (n := 0) hx hb dX8_laysGap_14 ?_
  refine lv_istore_n (lv' := [(1, .int (iI 0)), (0, .ref (ad 0))]) hx hb dX8_laysGap_15 rfl hl (by decide) rfl (fun ls hl => ?_)
  refine k_iconst (n := 0) hx hb dX8_laysGap_16 ?_
  refine lv_istore_n (lv' := [(2, .int (iI 0)), (1, .int (iI 0)), (0, .ref (ad 0))]) hx hb dX8_laysGap_17 rfl hl (by decide) rfl (fun ls hl => ?_)
  refine k_iconst (n := 0) hx hb dX8_laysGap_18 ?_
  refine lv_istore_n (lv' := [(3, .int (iI 0)), (2, .int (iI 0)), (1, .int (iI 0)), (0, .ref (ad 0))]) hx hb dX8_laysGap_19 rfl hl (by decide) rfl (fun ls hl => ?_)
  obtain ⟨ez5, ez6, hq, hs⟩ := bd2_some hs
  refine Lz20 FU (-1) 0 vz1 vz2 0 0 0 ez5 ez6 hq Hz lz hP hD hSz ls (lv_sub hl [3, 2, 1, 0] rfl) ?_
  intro Hz lz hP hD hSz ls hl
  cases hs
  exact k_vret_w hx hb hr hlk (by rw [hw1]; exact hP) hSz dX8_laysGap_111 rfl
/-! X8_gapLength -/
set_option maxHeartbeats 4000000 in
set_option maxRecDepth 100000 in
theorem c_X8_gapLength (l : Launch) (D : va_G) (cI cZ cJ : ClassId) {ad : Nat → Nat} {x_thrown : Int} {x_buffered : Int} {x_given : Int} {x_isFolding : Int} {x_work : Int} {x_rebuilt : Int} {x_streamed : Int} {x_reports : Int} {x_gapFrom : Int} {x_gapSize : Int} {x_elements : Int} {x_wholeSize : Int} {x_isLaid : Int} {x_takenMany : Int} {a_buffer : (Int → Int)} {a_length : (Int → Int)} {a_bytes : (Int → Int)} {a_weight : (Int → Int)} {a_live : (Int → Int)} {a_size : (Int → Int)} {a_list : (Int → Int)} {a_moved : (Int → Int)} {a_planned : (Int → Int)} {a_stream : (Int → Int)} {a_reportedEnd : (Int → Int)} {a_reportedKeyword : (Int → Int)} {a_starts : (Int → Int)} {a_keywordAt : (Int → Int)} {a_element : (Int → Int)} {a_long1 : (Int → Int)} {a_head : (Int → Int)} {a_tail : (Int → Int)} {a_next : (Int → Int)} {a_skip : (Int → Int)} {a_last : (Int → Int)} {a_whole : (Int → Int)} {a_edges : (Int → Int)} {a_covers : (Int → Int)} {a_weighs : (Int → Int)} {a_numbers : (Int → Int)} {a_takes : (Int → Int)} {a_takenAt : (Int → Int)} {r : Int} {y_x_thrown : Int} {y_x_gapFrom : Int} {y_x_gapSize : Int} {y_a_starts : (Int → Int)} {y_a_keywordAt : (Int → Int)} {sz : Nat} (hs : s_X8_gapLength x_thrown x_given x_isFolding x_streamed x_gapFrom x_gapSize a_length a_bytes a_live a_stream a_starts a_keywordAt = some (r, y_x_thrown, y_x_gapFrom, y_x_gapSize, y_a_starts, y_a_keywordAt)) : Met l yX8_gapLength wsX8_gapLength rm_X8_gapLength (PW D vwCl [(cI, .int), (cZ, .boolean), (cJ, .long)] [.ref (ad 0)] (wM cI cZ cJ ad x_thrown x_buffered x_given x_isFolding x_work x_rebuilt x_streamed x_reports x_gapFrom x_gapSize x_elements x_wholeSize x_isLaid x_takenMany a_buffer a_length a_bytes a_weight a_live a_size a_list a_moved a_planned a_stream a_reportedEnd a_reportedKeyword a_starts a_keywordAt a_element a_long1 a_head a_tail a_next a_skip a_last a_whole a_edges a_covers a_weighs a_numbers a_takes a_takenAt) sz) (QW D vwCl (some (.int (iI r))) (wM cI cZ cJ ad y_x_thrown x_buffered x_given x_isFolding x_work x_rebuilt x_streamed x_reports y_x_gapFrom y_x_gapSize x_elements x_wholeSize x_isLaid x_takenMany a_buffer a_length a_bytes a_weight a_live a_size a_list a_moved a_planned a_stream a_reportedEnd a_reportedKeyword y_a_starts y_a_keywordAt a_element a_long1 a_head a_tail a_next a_skip a_last a_whole a_edges a_covers a_weighs a_numbers a_takes a_takenAt) (va_A (wM cI cZ cJ ad x_thrown x_buffered x_given x_isFolding x_work x_rebuilt x_streamed x_reports x_gapFrom x_gapSize x_elements x_wholeSize x_isLaid x_takenMany a_buffer a_length a_bytes a_weight a_live a_size a_list a_moved a_planned a_stream a_reportedEnd a_reportedKeyword a_starts a_keywordAt a_element a_long1 a_head a_tail a_next a_skip a_last a_whole a_edges a_covers a_weighs a_numbers a_takes a_takenAt) sz)) 0 0 (va_A (wM cI cZ cJ ad x_thrown x_buffered x_given x_isFolding x_work x_rebuilt x_streamed x_reports x_gapFrom x_gapSize x_elements x_wholeSize x_isLaid x_takenMany a_buffer a_length a_bytes a_weight a_live a_size a_list a_moved a_planned a_stream a_reportedEnd a_reportedKeyword a_starts a_keywordAt a_element a_long1 a_head a_tail a_next a_skip a_last a_whole a_edges a_covers a_weighs a_numbers a_takes a_takenAt) sz) := by
  refine Met.ofW (cc := cX8_gapLength) (maxL := 1) (ret := (some .int)) (by decide) rfl ?_
  intro p e s m args below meth c s₁ B hml hv
  obtain ⟨hav, hsz, hP, hK, hD0⟩ := hv
  have hx := B.exec
  have hb := B.bytes
  have hr := B.returns
  have hts := atoms_spec (ws := wsX8_gapLength) B.pre
  have hown : s.vm.findClass RX8 = some m.cls := findClass_of_methodNamed B.named
  have hlk := B.notSynchronized
  have hf1 : (Cond.fieldLink RX8 1 "KeywordMatcherModel" "thrown" "I").before args s = true := hts _ (List.mem_of_getElem? (i := 1) rfl)
  have hiX8 : ∀ w ∈ wsX80, w ∈ wsX8_gapLength := fun w h => List.mem_cons_of_mem _ (List.mem_append_right _ h)
  have hf224 : (Cond.fieldLink RX8 224 "KeywordMatcherModel" "gapSize" "I").before args s = true := hts _ (List.mem_of_getElem? (i := 2) rfl)
  subst hsz
  have hD := hD0.self (sz := s.heap.size)
  generalize hAe : va_A (wM cI cZ cJ ad x_thrown x_buffered x_given x_isFolding x_work x_rebuilt x_streamed x_reports x_gapFrom x_gapSize x_elements x_wholeSize x_isLaid x_takenMany a_buffer a_length a_bytes a_weight a_live a_size a_list a_moved a_planned a_stream a_reportedEnd a_reportedKeyword a_starts a_keywordAt a_element a_long1 a_head a_tail a_next a_skip a_last a_whole a_edges a_covers a_weighs a_numbers a_takes a_takenAt) s.heap.size = Az at hD ⊢
  have hA : ∀ q : Nat, s.heap.size ≤ q → Az q := fun q h => by rw [← hAe]; exact Or.inr h
  clear hAe
  have hSz : va_S Az s.heap s.heap [] := va_S.rf
  obtain ⟨wz, hw1⟩ : ∃ z : va_W, z = (wM cI cZ cJ ad y_x_thrown x_buffered x_given x_isFolding x_work x_rebuilt x_streamed x_reports y_x_gapFrom y_x_gapSize x_elements x_wholeSize x_isLaid x_takenMany a_buffer a_length a_bytes a_weight a_live a_size a_list a_moved a_planned a_stream a_reportedEnd a_reportedKeyword y_a_starts y_a_keywordAt a_element a_long1 a_head a_tail a_next a_skip a_last a_whole a_edges a_covers a_weighs a_numbers a_takes a_takenAt) := ⟨_, rfl⟩
  rw [← hw1]
  have hl := lv_entry ([.ref (ad 0)]) (n := 1) (Nat.le_of_ble_eq_true rfl)
  rw [show entryFrame m args 1 = entryFrame m ([.ref (ad 0)] : List Value).toArray 1 from by rw [hav], lg_entry_eq]
  generalize (lg_sl ([.ref (ad 0)]) ++ List.replicate (1 - (lg_sl ([.ref (ad 0)])).length) Slot.unset).toArray = ls at hl ⊢
  have hl : lv_has ls 1 [(0, .ref (ad 0))] := hl
  unfold s_X8_gapLength at hs
  refine (?_ : ∀ (Hz : Heap) (lz : List Loc), va_P D vwCl (wM cI cZ cJ ad x_thrown x_buffered x_given x_isFolding x_work x_rebuilt x_streamed x_reports x_gapFrom x_gapSize x_elements x_wholeSize x_isLaid x_takenMany a_buffer a_length a_bytes a_weight a_live a_size a_list a_moved a_planned a_stream a_reportedEnd a_reportedKeyword a_starts a_keywordAt a_element a_long1 a_head a_tail a_next a_skip a_last a_whole a_edges a_covers a_weighs a_numbers a_takes a_takenAt) Hz → va_D Az (wM cI cZ cJ ad x_thrown x_buffered x_given x_isFolding x_work x_rebuilt x_streamed x_reports x_gapFrom x_gapSize x_elements x_wholeSize x_isLaid x_takenMany a_buffer a_length a_bytes a_weight a_live a_size a_list a_moved a_planned a_stream a_reportedEnd a_reportedKeyword a_starts a_keywordAt a_element a_long1 a_head a_tail a_next a_skip a_last a_whole a_edges a_covers a_weighs a_numbers a_takes a_takenAt) → va_S Az s.heap Hz lz → W p l e (headSpec wsX8_gapLength rm_X8_gapLength).room s m args below meth c Hz lz 0 0 (MQ below (QW D vwCl (some (.int (iI r))) wz Az) args s 0 0 Az) (F0 m 0 ls [])) s.heap [] hP hD hSz
  intro Hz lz hP hD hSz
  refine lv_aload_n hx hb dX8_gapLength_0 rfl (lv_at hl 0 rfl) ?_
  refine k_iconst (n := 0) hx hb dX8_gapLength_1 ?_
  refine va_put (ci := 8) (v := .int (iI 0)) (ty := .int) (C := RX8) (T := TX8) (N := 42) hx hb hts hiX8 tyX8 tyX8_ok nmX8 hown hK hP hD hSz 0 rfl rfl 0 (by decide) hf1 (fun _ h9 => h9) rfl (by decide +kernel) rfl rfl (Nat.le_of_ble_eq_true rfl) dX8_gapLength_2 (fun Hz lz hP hD hSz => ?_)
  have hP : va_P D vwCl (wM cI cZ cJ ad 0 x_buffered x_given x_isFolding x_work x_rebuilt x_streamed x_reports x_gapFrom x_gapSize x_elements x_wholeSize x_isLaid x_takenMany a_buffer a_length a_bytes a_weight a_live a_size a_list a_moved a_planned a_stream a_reportedEnd a_reportedKeyword a_starts a_keywordAt a_element a_long1 a_head a_tail a_next a_skip a_last a_whole a_edges a_covers a_weighs a_numbers a_takes a_takenAt) Hz := hP
  have hD : va_D Az (wM cI cZ cJ ad 0 x_buffered x_given x_isFolding x_work x_rebuilt x_streamed x_reports x_gapFrom x_gapSize x_elements x_wholeSize x_isLaid x_takenMany a_buffer a_length a_bytes a_weight a_live a_size a_list a_moved a_planned a_stream a_reportedEnd a_reportedKeyword a_starts a_keywordAt a_element a_long1 a_head a_tail a_next a_skip a_last a_whole a_edges a_covers a_weighs a_numbers a_takes a_takenAt) := hD
  refine lv_aload_n hx hb dX8_gapLength_5 rfl (lv_at hl 0 rfl) ?_
  obtain ⟨vz1, vz2, vz3, vz4, hcz, hs⟩ := bd4_some hs
  refine k_wVs (As := []) (rest := []) (st1 := []) (w1 := (wM cI cZ cJ ad 0 x_buffered x_given x_isFolding x_work x_rebuilt x_streamed x_reports vz1 vz2 x_elements x_wholeSize x_isLaid x_takenMany a_buffer a_length a_bytes a_weight a_live a_size a_list a_moved a_planned a_stream a_reportedEnd a_reportedKeyword vz3 vz4 a_element a_long1 a_head a_tail a_next a_skip a_last a_whole a_edges a_covers a_weighs a_numbers a_takes a_takenAt)) ⟨hx, hb, hml, hown, hts⟩ hK hP hD hSz hA (c_X8_laysGap l D cI cZ cJ hcz) (cwV 0 hts gX8_gapLength_X8_laysGap rfl rfl rfl (by decide +kernel) ⟨Nat.le_of_ble_eq_true rfl, Nat.le_of_ble_eq_true rfl⟩) 0 rfl rfl rfl rfl rfl hl.1 rfl (lv_room (Nat.le_of_ble_eq_true rfl)) dX8_gapLength_6 ⟨Nat.zero_le _, Nat.zero_le _⟩ rfl (fun Hz lz hP hD hSz => ?_)
  have hP : va_P D vwCl (wM cI cZ cJ ad 0 x_buffered x_given x_isFolding x_work x_rebuilt x_streamed x_reports vz1 vz2 x_elements x_wholeSize x_isLaid x_takenMany a_buffer a_length a_bytes a_weight a_live a_size a_list a_moved a_planned a_stream a_reportedEnd a_reportedKeyword vz3 vz4 a_element a_long1 a_head a_tail a_next a_skip a_last a_whole a_edges a_covers a_weighs a_numbers a_takes a_takenAt) Hz := hP
  have hD : va_D Az (wM cI cZ cJ ad 0 x_buffered x_given x_isFolding x_work x_rebuilt x_streamed x_reports vz1 vz2 x_elements x_wholeSize x_isLaid x_takenMany a_buffer a_length a_bytes a_weight a_live a_size a_list a_moved a_planned a_stream a_reportedEnd a_reportedKeyword vz3 vz4 a_element a_long1 a_head a_tail a_next a_skip a_last a_whole a_edges a_covers a_weighs a_numbers a_takes a_takenAt) := hD
  refine lv_aload_n hx hb dX8_gapLength_9 rfl (lv_at hl 0 rfl) ?_
  refine va_get (ci := 8) (v := .int (iI vz2)) (C := RX8) (T := TX8) (N := 42) hx hb hts hiX8 hown hK hP 0 rfl rfl 23 (by decide) hf224 (fun _ h9 => h9) rfl dX8_gapLength_10 ?_
  cases hs
  exact k_iret_w hx hb hr hlk (by rw [hw1]; exact hP) hSz dX8_gapLength_13 rfl
