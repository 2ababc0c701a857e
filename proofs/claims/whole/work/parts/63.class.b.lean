/-! X7_rebuild -/
set_option maxHeartbeats 4000000 in
set_option maxRecDepth 100000 in
theorem c_X7_rebuild (l : Launch) (D : va_G) (cI cZ cJ : ClassId) {ad : Nat → Nat} {x_work : Int} {x_rebuilds : Int} {x_reported : Int} {x_folding_on : Int} {x_buffer_length : Int} {a_buffer_bytes : (Int → Int)} {x_keywords_given : Int} {x_keywords_alive : Int} {a_keywords_bytes : (Int → Int)} {a_keywords_lengths : (Int → Int)} {a_keywords_weights : (Int → Int)} {a_keywords_lives : (Int → Int)} {x_mainSet_count : Int} {a_mainSet_members : (Int → Int)} {x_removalSet_count : Int} {a_removalSet_members : (Int → Int)} {x_superstring_slots : Int} {x_superstring_built : Int} {b_superstring_sw : Bool} {a_superstring_starts : (Int → Int)} {a_superstring_lengths : (Int → Int)} {a_superstring_overlaps : (Int → Int)} {x_superstring_area_length : Int} {a_superstring_area_bytes : (Int → Int)} {x_superstring_spare_length : Int} {a_superstring_spare_bytes : (Int → Int)} {x_stream_length : Int} {a_stream_bytes : (Int → Int)} {a_matches_words : (Int → Int)} {x_reports_size : Int} {a_reports_positions : (Int → Int)} {a_reports_numbers : (Int → Int)} {x_chosen_size : Int} {a_chosen_positions : (Int → Int)} {a_chosen_numbers : (Int → Int)} {a_depths : (Int → Int)} {a_bestFrom : (Int → Int)} {y_x_work : Int} {y_x_rebuilds : Int} {y_x_mainSet_count : Int} {y_a_mainSet_members : (Int → Int)} {y_x_removalSet_count : Int} {sz : Nat} (hs : s_X7_rebuild x_work x_rebuilds x_keywords_given a_keywords_lives x_mainSet_count a_mainSet_members x_removalSet_count = some (y_x_work, y_x_rebuilds, y_x_mainSet_count, y_a_mainSet_members, y_x_removalSet_count)) : Met l yX7_rebuild wsX7_rebuild rm_X7_rebuild (PW D vwCl [(cI, .int), (cZ, .boolean), (cJ, .long)] [.ref (ad 0)] (wK cI cZ cJ ad x_work x_rebuilds x_reported x_folding_on x_buffer_length a_buffer_bytes x_keywords_given x_keywords_alive a_keywords_bytes a_keywords_lengths a_keywords_weights a_keywords_lives x_mainSet_count a_mainSet_members x_removalSet_count a_removalSet_members x_superstring_slots x_superstring_built b_superstring_sw a_superstring_starts a_superstring_lengths a_superstring_overlaps x_superstring_area_length a_superstring_area_bytes x_superstring_spare_length a_superstring_spare_bytes x_stream_length a_stream_bytes a_matches_words x_reports_size a_reports_positions a_reports_numbers x_chosen_size a_chosen_positions a_chosen_numbers a_depths a_bestFrom) sz) (QW D vwCl none (wK cI cZ cJ ad y_x_work y_x_rebuilds x_reported x_folding_on x_buffer_length a_buffer_bytes x_keywords_given x_keywords_alive a_keywords_bytes a_keywords_lengths a_keywords_weights a_keywords_lives y_x_mainSet_count y_a_mainSet_members y_x_removalSet_count a_removalSet_members x_superstring_slots x_superstring_built b_superstring_sw a_superstring_starts a_superstring_lengths a_superstring_overlaps x_superstring_area_length a_superstring_area_bytes x_superstring_spare_length a_superstring_spare_bytes x_stream_length a_stream_bytes a_matches_words x_reports_size a_reports_positions a_reports_numbers x_chosen_size a_chosen_positions a_chosen_numbers a_depths a_bestFrom) (va_A (wK cI cZ cJ ad x_work x_rebuilds x_reported x_folding_on x_buffer_length a_buffer_bytes x_keywords_given x_keywords_alive a_keywords_bytes a_keywords_lengths a_keywords_weights a_keywords_lives x_mainSet_count a_mainSet_members x_removalSet_count a_removalSet_members x_superstring_slots x_superstring_built b_superstring_sw a_superstring_starts a_superstring_lengths a_superstring_overlaps x_superstring_area_length a_superstring_area_bytes x_superstring_spare_length a_superstring_spare_bytes x_stream_length a_stream_bytes a_matches_words x_reports_size a_reports_positions a_reports_numbers x_chosen_size a_chosen_positions a_chosen_numbers a_depths a_bestFrom) sz)) 0 0 (va_A (wK cI cZ cJ ad x_work x_rebuilds x_reported x_folding_on x_buffer_length a_buffer_bytes x_keywords_given x_keywords_alive a_keywords_bytes a_keywords_lengths a_keywords_weights a_keywords_lives x_mainSet_count a_mainSet_members x_removalSet_count a_removalSet_members x_superstring_slots x_superstring_built b_superstring_sw a_superstring_starts a_superstring_lengths a_superstring_overlaps x_superstring_area_length a_superstring_area_bytes x_superstring_spare_length a_superstring_spare_bytes x_stream_length a_stream_bytes a_matches_words x_reports_size a_reports_positions a_reports_numbers x_chosen_size a_chosen_positions a_chosen_numbers a_depths a_bestFrom) sz) := by
  refine Met.ofW (cc := cX7_rebuild) (maxL := 2) (ret := none) (by decide) rfl ?_
  intro p e s m args below meth c s₁ B hml hv
  obtain ⟨hav, hsz, hP, hK, hD0⟩ := hv
  have hx := B.exec
  have hb := B.bytes
  have hr := B.returns
  have hts := atoms_spec (ws := wsX7_rebuild) B.pre
  have hown : s.vm.findClass RX7 = some m.cls := findClass_of_methodNamed B.named
  have hlk := B.notSynchronized
  have hf83 : (Cond.fieldLink RX7 83 "KeywordMatcher" "rebuilds" "I").before args s = true := hts _ (List.mem_of_getElem? (i := 1) rfl)
  have hiX7 : ∀ w ∈ wsX70, w ∈ wsX7_rebuild := fun w h => List.mem_cons_of_mem _ (List.mem_append_left _ (List.mem_append_left _ (List.mem_append_right _ h)))
  have hf37 : (Cond.fieldLink RX7 37 "KeywordMatcher" "mainSet" "LKeywordMatcher$BucketSet;").before args s = true := hts _ (List.mem_of_getElem? (i := 2) rfl)
  have hf41 : (Cond.fieldLink RX7 41 "KeywordMatcher" "removalSet" "LKeywordMatcher$BucketSet;").before args s = true := hts _ (List.mem_of_getElem? (i := 3) rfl)
  have hf30 : (Cond.fieldLink RX7 30 "KeywordMatcher" "keywords" "LKeywordMatcher$Keywords;").before args s = true := hts _ (List.mem_of_getElem? (i := 4) rfl)
  have hf132 : (Cond.fieldLink RX7 132 "KeywordMatcher$Keywords" "given" "I").before args s = true := hts _ (List.mem_of_getElem? (i := 5) rfl)
  have hiX3 : ∀ w ∈ wsX30, w ∈ wsX7_rebuild := fun w h => List.mem_cons_of_mem _ (List.mem_append_left _ (List.mem_append_right _ h))
  have hf79 : (Cond.fieldLink RX7 79 "KeywordMatcher" "work" "I").before args s = true := hts _ (List.mem_of_getElem? (i := 6) rfl)
  subst hsz
  have hD := hD0.self (sz := s.heap.size)
  generalize hAe : va_A (wK cI cZ cJ ad x_work x_rebuilds x_reported x_folding_on x_buffer_length a_buffer_bytes x_keywords_given x_keywords_alive a_keywords_bytes a_keywords_lengths a_keywords_weights a_keywords_lives x_mainSet_count a_mainSet_members x_removalSet_count a_removalSet_members x_superstring_slots x_superstring_built b_superstring_sw a_superstring_starts a_superstring_lengths a_superstring_overlaps x_superstring_area_length a_superstring_area_bytes x_superstring_spare_length a_superstring_spare_bytes x_stream_length a_stream_bytes a_matches_words x_reports_size a_reports_positions a_reports_numbers x_chosen_size a_chosen_positions a_chosen_numbers a_depths a_bestFrom) s.heap.size = Az at hD ⊢
  have hA : ∀ q : Nat, s.heap.size ≤ q → Az q := fun q h => by rw [← hAe]; exact Or.inr h
  clear hAe
  have hSz : va_S Az s.heap s.heap [] := va_S.rf
  obtain ⟨wz, hw1⟩ : ∃ z : va_W, z = (wK cI cZ cJ ad y_x_work y_x_rebuilds x_reported x_folding_on x_buffer_length a_buffer_bytes x_keywords_given x_keywords_alive a_keywords_bytes a_keywords_lengths a_keywords_weights a_keywords_lives y_x_mainSet_count y_a_mainSet_members y_x_removalSet_count a_removalSet_members x_superstring_slots x_superstring_built b_superstring_sw a_superstring_starts a_superstring_lengths a_superstring_overlaps x_superstring_area_length a_superstring_area_bytes x_superstring_spare_length a_superstring_spare_bytes x_stream_length a_stream_bytes a_matches_words x_reports_size a_reports_positions a_reports_numbers x_chosen_size a_chosen_positions a_chosen_numbers a_depths a_bestFrom) := ⟨_, rfl⟩
  rw [← hw1]
  have hl := lv_entry ([.ref (ad 0)]) (n := 2) (Nat.le_of_ble_eq_true rfl)
  rw [show entryFrame m args 2 = entryFrame m ([.ref (ad 0)] : List Value).toArray 2 from by rw [hav], lg_entry_eq]
  generalize (lg_sl ([.ref (ad 0)]) ++ List.replicate (2 - (lg_sl ([.ref (ad 0)])).length) Slot.unset).toArray = ls at hl ⊢
  have hl : lv_has ls 2 [(0, .ref (ad 0))] := hl
  unfold s_X7_rebuild at hs
  have Lz26 : ∀ (fu : Nat) (x_work : Int) (x_rebuilds : Int) (x_mainSet_count : Int) (a_mainSet_members : (Int → Int)) (x_removalSet_count : Int) (l1 : Int) (y0 : Int) (y1 : Int) (y2 : (Int → Int)), s_X7_rebuild_26 fu x_work x_keywords_given a_keywords_lives x_mainSet_count a_mainSet_members l1 = some (y0, y1, y2) → ∀ (Hz : Heap) (lz : List Loc), va_P D vwCl (wK cI cZ cJ ad x_work x_rebuilds x_reported x_folding_on x_buffer_length a_buffer_bytes x_keywords_given x_keywords_alive a_keywords_bytes a_keywords_lengths a_keywords_weights a_keywords_lives x_mainSet_count a_mainSet_members x_removalSet_count a_removalSet_members x_superstring_slots x_superstring_built b_superstring_sw a_superstring_starts a_superstring_lengths a_superstring_overlaps x_superstring_area_length a_superstring_area_bytes x_superstring_spare_length a_superstring_spare_bytes x_stream_length a_stream_bytes a_matches_words x_reports_size a_reports_positions a_reports_numbers x_chosen_size a_chosen_positions a_chosen_numbers a_depths a_bestFrom) Hz → va_D Az (wK cI cZ cJ ad x_work x_rebuilds x_reported x_folding_on x_buffer_length a_buffer_bytes x_keywords_given x_keywords_alive a_keywords_bytes a_keywords_lengths a_keywords_weights a_keywords_lives x_mainSet_count a_mainSet_members x_removalSet_count a_removalSet_members x_superstring_slots x_superstring_built b_superstring_sw a_superstring_starts a_superstring_lengths a_superstring_overlaps x_superstring_area_length a_superstring_area_bytes x_superstring_spare_length a_superstring_spare_bytes x_stream_length a_stream_bytes a_matches_words x_reports_size a_reports_positions a_reports_numbers x_chosen_size a_chosen_positions a_chosen_numbers a_depths a_bestFrom) → va_S Az s.heap Hz lz → ∀ ls : Array Slot, lv_has ls 2 [(0, .ref (ad 0)), (1, .int (iI l1))] → (∀ (Hz : Heap) (lz : List Loc), va_P D vwCl (wK cI cZ cJ ad y0 x_rebuilds x_reported x_folding_on x_buffer_length a_buffer_bytes x_keywords_given x_keywords_alive a_keywords_bytes a_keywords_lengths a_keywords_weights a_keywords_lives y1 y2 x_removalSet_count a_removalSet_members x_superstring_slots x_superstring_built b_superstring_sw a_superstring_starts a_superstring_lengths a_superstring_overlaps x_superstring_area_length a_superstring_area_bytes x_superstring_spare_length a_superstring_spare_bytes x_stream_length a_stream_bytes a_matches_words x_reports_size a_reports_positions a_reports_numbers x_chosen_size a_chosen_positions a_chosen_numbers a_depths a_bestFrom) Hz → va_D Az (wK cI cZ cJ ad y0 x_rebuilds x_reported x_folding_on x_buffer_length a_buffer_bytes x_keywords_given x_keywords_alive a_keywords_bytes a_keywords_lengths a_keywords_weights a_keywords_lives y1 y2 x_removalSet_count a_removalSet_members x_superstring_slots x_superstring_built b_superstring_sw a_superstring_starts a_superstring_lengths a_superstring_overlaps x_superstring_area_length a_superstring_area_bytes x_superstring_spare_length a_superstring_spare_bytes x_stream_length a_stream_bytes a_matches_words x_reports_size a_reports_positions a_reports_numbers x_chosen_size a_chosen_positions a_chosen_numbers a_depths a_bestFrom) → va_S Az s.heap Hz lz → ∀ ls : Array Slot, lv_has ls 2 [] → W p l e (headSpec wsX7_rebuild rm_X7_rebuild).room s m args below meth c Hz lz 0 0 (MQ below (QW D vwCl none wz Az) args s 0 0 Az) (F0 m 71 ls [])) → W p l e (headSpec wsX7_rebuild rm_X7_rebuild).room s m args below meth c Hz lz 0 0 (MQ below (QW D vwCl none wz Az) args s 0 0 Az) (F0 m 26 ls []) := by
    intro fu
    induction fu with
    | zero => intro x_work x_rebuilds x_mainSet_count a_mainSet_members x_removalSet_count l1 y0 y1 y2 hs; cases hs
    | succ fu ih =>
      intro x_work x_rebuilds x_mainSet_count a_mainSet_members x_removalSet_count l1 y0 y1 y2 hs Hz lz hP hD hSz ls hl kx
      rw [s_X7_rebuild_26_s] at hs
      refine lv_iload_n hx hb dX7_rebuild_26 rfl (lv_at hl 1 rfl) ?_
      refine lv_aload_n hx hb dX7_rebuild_27 rfl (lv_at hl 0 rfl) ?_
      refine va_get (ci := 7) (v := .ref (ad 4)) (C := RX7) (T := TX7) (N := 15) hx hb hts hiX7 hown hK hP 0 rfl rfl 2 (by decide) hf30 (fun _ h9 => h9) rfl dX7_rebuild_28 ?_
      refine va_get (ci := 3) (v := .int (iI x_keywords_given)) (C := RX3) (T := TX3) (N := 7) hx hb hts hiX3 hown hK hP 4 rfl rfl 5 (by decide) hf132 (fun _ h9 => h9) rfl dX7_rebuild_31 ?_
      refine k_icmp_ge (tgt := 71) hx hb hs dX7_rebuild_34 (by decide) (fun hs => ?_) (fun hs => ?_)
      · refine lv_aload_n hx hb dX7_rebuild_37 rfl (lv_at hl 0 rfl) ?_
        refine va_get (ci := 7) (v := .ref (ad 4)) (C := RX7) (T := TX7) (N := 15) hx hb hts hiX7 hown hK hP 0 rfl rfl 2 (by decide) hf30 (fun _ h9 => h9) rfl dX7_rebuild_38 ?_
        refine lv_iload_n hx hb dX7_rebuild_41 rfl (lv_at hl 1 rfl) ?_
        obtain ⟨vz3, hcz, hs⟩ := bd1_some hs
        have hPc : va_P D vwCl [((ad 4), .inr (3, [.ref (ad 1), .ref (ad 5), .ref (ad 6), .ref (ad 7), .ref (ad 8), .int (iI x_keywords_given), .int (iI x_keywords_alive)])), ((ad 1), .inr (2, [.int (iI x_folding_on)])), ((ad 5), .inl (cI, 1920, .inl (mI a_keywords_bytes))), ((ad 6), .inl (cI, 120, .inl (mI a_keywords_lengths))), ((ad 7), .inl (cI, 120, .inl (mI a_keywords_weights))), ((ad 8), .inl (cZ, 120, .inl (mI a_keywords_lives)))] Hz := hP.sub [4, 1, 5, 6, 7, 8] rfl
        refine k_rV (As := [.int (iI l1)]) (rest := []) (st1 := [.int (iI vz3)]) ⟨hx, hb, hml, hown, hts⟩ hK hPc (c_X3_isAlive l D cI cZ cJ hcz) (cwV 1 hts gX7_rebuild_X3_isAlive rfl rfl rfl (by decide +kernel) ⟨Nat.le_of_ble_eq_true rfl, Nat.le_of_ble_eq_true rfl⟩) 0 rfl rfl rfl rfl hl.1 rfl (lv_room (Nat.le_of_ble_eq_true rfl)) dX7_rebuild_42 ⟨Nat.zero_le _, Nat.zero_le _⟩ rfl ?_
        refine k_if_eq (tgt := 65) hx hb hs dX7_rebuild_45 (by decide) (fun hs => ?_) (fun hs => ?_)
        · refine k_iinc (x := l1) (k := 1) (lv' := [(1, .int (iI (l1 + 1))), (0, .ref (ad 0))]) hx hb dX7_rebuild_65 hl rfl (by decide) rfl (fun ls hl => ?_)
          refine lv_goto (tgt := 26) hx hb dX7_rebuild_68 (by decide) ?_
          exact ih x_work x_rebuilds x_mainSet_count a_mainSet_members x_removalSet_count (l1 + 1) y0 y1 y2 hs Hz lz hP hD hSz ls (lv_sub hl [1, 0] rfl) kx
        · refine lv_aload_n hx hb dX7_rebuild_48 rfl (lv_at hl 0 rfl) ?_
          refine lv_dup hx hb dX7_rebuild_49 rfl ?_
          refine va_get (ci := 7) (v := .int (iI x_work)) (C := RX7) (T := TX7) (N := 15) hx hb hts hiX7 hown hK hP 0 rfl rfl 12 (by decide) hf79 (fun _ h9 => h9) rfl dX7_rebuild_50 ?_
          refine lv_aload_n hx hb dX7_rebuild_53 rfl (lv_at hl 0 rfl) ?_
          refine va_get (ci := 7) (v := .ref (ad 9)) (C := RX7) (T := TX7) (N := 15) hx hb hts hiX7 hown hK hP 0 rfl rfl 3 (by decide) hf37 (fun _ h9 => h9) rfl dX7_rebuild_54 ?_
          refine lv_iload_n hx hb dX7_rebuild_57 rfl (lv_at hl 1 rfl) ?_
          obtain ⟨vz4, vz5, vz6, hcz, hs⟩ := bd3_some hs
          refine k_wV (As := [.int (iI l1)]) (rest := [.int (iI x_work), .ref (ad 0)]) (st1 := [.int (iI vz4), .int (iI x_work), .ref (ad 0)]) (wc := [((ad 9), .inr (0, [.ref (ad 10), .int (iI x_mainSet_count)])), ((ad 10), .inl (cI, 127, .inl (mI a_mainSet_members)))]) (w1 := [((ad 9), .inr (0, [.ref (ad 10), .int (iI vz5)])), ((ad 10), .inl (cI, 127, .inl (mI vz6)))]) ⟨hx, hb, hml, hown, hts⟩ hK hP hD hSz hA [9, 10] rfl (by decide) (c_X0_insert l D cI cZ cJ hcz) (cwV 1 hts gX7_rebuild_X0_insert rfl rfl rfl (by decide +kernel) ⟨Nat.le_of_ble_eq_true rfl, Nat.le_of_ble_eq_true rfl⟩) 9 rfl rfl rfl rfl rfl hl.1 rfl (lv_room (Nat.le_of_ble_eq_true rfl)) dX7_rebuild_58 ⟨Nat.zero_le _, Nat.zero_le _⟩ rfl (fun Hz lz hP hD hSz => ?_)
          have hP : va_P D vwCl (wK cI cZ cJ ad x_work x_rebuilds x_reported x_folding_on x_buffer_length a_buffer_bytes x_keywords_given x_keywords_alive a_keywords_bytes a_keywords_lengths a_keywords_weights a_keywords_lives vz5 vz6 x_removalSet_count a_removalSet_members x_superstring_slots x_superstring_built b_superstring_sw a_superstring_starts a_superstring_lengths a_superstring_overlaps x_superstring_area_length a_superstring_area_bytes x_superstring_spare_length a_superstring_spare_bytes x_stream_length a_stream_bytes a_matches_words x_reports_size a_reports_positions a_reports_numbers x_chosen_size a_chosen_positions a_chosen_numbers a_depths a_bestFrom) Hz := hP
          have hD : va_D Az (wK cI cZ cJ ad x_work x_rebuilds x_reported x_folding_on x_buffer_length a_buffer_bytes x_keywords_given x_keywords_alive a_keywords_bytes a_keywords_lengths a_keywords_weights a_keywords_lives vz5 vz6 x_removalSet_count a_removalSet_members x_superstring_slots x_superstring_built b_superstring_sw a_superstring_starts a_superstring_lengths a_superstring_overlaps x_superstring_area_length a_superstring_area_bytes x_superstring_spare_length a_superstring_spare_bytes x_stream_length a_stream_bytes a_matches_words x_reports_size a_reports_positions a_reports_numbers x_chosen_size a_chosen_positions a_chosen_numbers a_depths a_bestFrom) := hD
          refine k_iadd hx hb dX7_rebuild_61 ?_
          refine va_put (ci := 7) (v := .int (iI (x_work + vz4))) (ty := .int) (C := RX7) (T := TX7) (N := 15) hx hb hts hiX7 tyX7 tyX7_ok nmX7 hown hK hP hD hSz 0 rfl rfl 12 (by decide) hf79 (fun _ h9 => h9) rfl (by decide +kernel) rfl rfl (Nat.le_of_ble_eq_true rfl) dX7_rebuild_62 (fun Hz lz hP hD hSz => ?_)
          have hP : va_P D vwCl (wK cI cZ cJ ad (x_work + vz4) x_rebuilds x_reported x_folding_on x_buffer_length a_buffer_bytes x_keywords_given x_keywords_alive a_keywords_bytes a_keywords_lengths a_keywords_weights a_keywords_lives vz5 vz6 x_removalSet_count a_removalSet_members x_superstring_slots x_superstring_built b_superstring_sw a_superstring_starts a_superstring_lengths a_superstring_overlaps x_superstring_area_length a_superstring_area_bytes x_superstring_spare_length a_superstring_spare_bytes x_stream_length a_stream_bytes a_matches_words x_reports_size a_reports_positions a_reports_numbers x_chosen_size a_chosen_positions a_chosen_numbers a_depths a_bestFrom) Hz := hP
          have hD : va_D Az (wK cI cZ cJ ad (x_work + vz4) x_rebuilds x_reported x_folding_on x_buffer_length a_buffer_bytes x_keywords_given x_keywords_alive a_keywords_bytes a_keywords_lengths a_keywords_weights a_keywords_lives vz5 vz6 x_removalSet_count a_removalSet_members x_superstring_slots x_superstring_built b_superstring_sw a_superstring_starts a_superstring_lengths a_superstring_overlaps x_superstring_area_length a_superstring_area_bytes x_superstring_spare_length a_superstring_spare_bytes x_stream_length a_stream_bytes a_matches_words x_reports_size a_reports_positions a_reports_numbers x_chosen_size a_chosen_positions a_chosen_numbers a_depths a_bestFrom) := hD
          refine k_iinc (x := l1) (k := 1) (lv' := [(1, .int (iI (l1 + 1))), (0, .ref (ad 0))]) hx hb dX7_rebuild_65 hl rfl (by decide) rfl (fun ls hl => ?_)
          refine lv_goto (tgt := 26) hx hb dX7_rebuild_68 (by decide) ?_
          exact ih (x_work + vz4) x_rebuilds vz5 vz6 x_removalSet_count (l1 + 1) y0 y1 y2 hs Hz lz hP hD hSz ls (lv_sub hl [1, 0] rfl) kx
      · cases hs
        exact kx Hz lz hP hD hSz ls (lv_sub hl [] rfl)
  refine (?_ : ∀ (Hz : Heap) (lz : List Loc), va_P D vwCl (wK cI cZ cJ ad x_work x_rebuilds x_reported x_folding_on x_buffer_length a_buffer_bytes x_keywords_given x_keywords_alive a_keywords_bytes a_keywords_lengths a_keywords_weights a_keywords_lives x_mainSet_count a_mainSet_members x_removalSet_count a_removalSet_members x_superstring_slots x_superstring_built b_superstring_sw a_superstring_starts a_superstring_lengths a_superstring_overlaps x_superstring_area_length a_superstring_area_bytes x_superstring_spare_length a_superstring_spare_bytes x_stream_length a_stream_bytes a_matches_words x_reports_size a_reports_positions a_reports_numbers x_chosen_size a_chosen_positions a_chosen_numbers a_depths a_bestFrom) Hz → va_D Az (wK cI cZ cJ ad x_work x_rebuilds x_reported x_folding_on x_buffer_length a_buffer_bytes x_keywords_given x_keywords_alive a_keywords_bytes a_keywords_lengths a_keywords_weights a_keywords_lives x_mainSet_count a_mainSet_members x_removalSet_count a_removalSet_members x_superstring_slots x_superstring_built b_superstring_sw a_superstring_starts a_superstring_lengths a_superstring_overlaps x_superstring_area_length a_superstring_area_bytes x_superstring_spare_length a_superstring_spare_bytes x_stream_length a_stream_bytes a_matches_words x_reports_size a_reports_positions a_reports_numbers x_chosen_size a_chosen_positions a_chosen_numbers a_depths a_bestFrom) → va_S Az s.heap Hz lz → W p l e (headSpec wsX7_rebuild rm_X7_rebuild).room s m args below meth c Hz lz 0 0 (MQ below (QW D vwCl none wz Az) args s 0 0 Az) (F0 m 0 ls [])) s.heap [] hP hD hSz
  intro Hz lz hP hD hSz
  refine lv_aload_n hx hb dX7_rebuild_0 rfl (lv_at hl 0 rfl) ?_
  refine lv_dup hx hb dX7_rebuild_1 rfl ?_
  refine va_get (ci := 7) (v := .int (iI x_rebuilds)) (C := RX7) (T := TX7) (N := 15) hx hb hts hiX7 hown hK hP 0 rfl rfl 13 (by decide) hf83 (fun _ h9 => h9) rfl dX7_rebuild_2 ?_
  refine k_iconst (n := 1) hx hb dX7_rebuild_5 ?_
  refine k_iadd hx hb dX7_rebuild_6 ?_
  refine va_put (ci := 7) (v := .int (iI (x_rebuilds + 1))) (ty := .int) (C := RX7) (T := TX7) (N := 15) hx hb hts hiX7 tyX7 tyX7_ok nmX7 hown hK hP hD hSz 0 rfl rfl 13 (by decide) hf83 (fun _ h9 => h9) rfl (by decide +kernel) rfl rfl (Nat.le_of_ble_eq_true rfl) dX7_rebuild_7 (fun Hz lz hP hD hSz => ?_)
  have hP : va_P D vwCl (wK cI cZ cJ ad x_work (x_rebuilds + 1) x_reported x_folding_on x_buffer_length a_buffer_bytes x_keywords_given x_keywords_alive a_keywords_bytes a_keywords_lengths a_keywords_weights a_keywords_lives x_mainSet_count a_mainSet_members x_removalSet_count a_removalSet_members x_superstring_slots x_superstring_built b_superstring_sw a_superstring_starts a_superstring_lengths a_superstring_overlaps x_superstring_area_length a_superstring_area_bytes x_superstring_spare_length a_superstring_spare_bytes x_stream_length a_stream_bytes a_matches_words x_reports_size a_reports_positions a_reports_numbers x_chosen_size a_chosen_positions a_chosen_numbers a_depths a_bestFrom) Hz := hP
  have hD : va_D Az (wK cI cZ cJ ad x_work (x_rebuilds + 1) x_reported x_folding_on x_buffer_length a_buffer_bytes x_keywords_given x_keywords_alive a_keywords_bytes a_keywords_lengths a_keywords_weights a_keywords_lives x_mainSet_count a_mainSet_members x_removalSet_count a_removalSet_members x_superstring_slots x_superstring_built b_superstring_sw a_superstring_starts a_superstring_lengths a_superstring_overlaps x_superstring_area_length a_superstring_area_bytes x_superstring_spare_length a_superstring_spare_bytes x_stream_length a_stream_bytes a_matches_words x_reports_size a_reports_positions a_reports_numbers x_chosen_size a_chosen_positions a_chosen_numbers a_depths a_bestFrom) := hD
  refine lv_aload_n hx hb dX7_rebuild_10 rfl (lv_at hl 0 rfl) ?_
  refine va_get (ci := 7) (v := .ref (ad 9)) (C := RX7) (T := TX7) (N := 15) hx hb hts hiX7 hown hK hP 0 rfl rfl 3 (by decide) hf37 (fun _ h9 => h9) rfl dX7_rebuild_11 ?_
  obtain ⟨vz1, hcz, hs⟩ := bd1_some hs
  refine k_wV (As := []) (rest := []) (st1 := []) (wc := [((ad 9), .inr (0, [.ref (ad 10), .int (iI x_mainSet_count)])), ((ad 10), .inl (cI, 127, .inl (mI a_mainSet_members)))]) (w1 := [((ad 9), .inr (0, [.ref (ad 10), .int (iI vz1)])), ((ad 10), .inl (cI, 127, .inl (mI a_mainSet_members)))]) ⟨hx, hb, hml, hown, hts⟩ hK hP hD hSz hA [9, 10] rfl (by decide) (c_X0_clear l D cI cZ cJ hcz) (cwV 0 hts gX7_rebuild_X0_clear rfl rfl rfl (by decide +kernel) ⟨Nat.le_of_ble_eq_true rfl, Nat.le_of_ble_eq_true rfl⟩) 9 rfl rfl rfl rfl rfl hl.1 rfl (lv_room (Nat.le_of_ble_eq_true rfl)) dX7_rebuild_14 ⟨Nat.zero_le _, Nat.zero_le _⟩ rfl (fun Hz lz hP hD hSz => ?_)
  have hP : va_P D vwCl (wK cI cZ cJ ad x_work (x_rebuilds + 1) x_reported x_folding_on x_buffer_length a_buffer_bytes x_keywords_given x_keywords_alive a_keywords_bytes a_keywords_lengths a_keywords_weights a_keywords_lives vz1 a_mainSet_members x_removalSet_count a_removalSet_members x_superstring_slots x_superstring_built b_superstring_sw a_superstring_starts a_superstring_lengths a_superstring_overlaps x_superstring_area_length a_superstring_area_bytes x_superstring_spare_length a_superstring_spare_bytes x_stream_length a_stream_bytes a_matches_words x_reports_size a_reports_positions a_reports_numbers x_chosen_size a_chosen_positions a_chosen_numbers a_depths a_bestFrom) Hz := hP
  have hD : va_D Az (wK cI cZ cJ ad x_work (x_rebuilds + 1) x_reported x_folding_on x_buffer_length a_buffer_bytes x_keywords_given x_keywords_alive a_keywords_bytes a_keywords_lengths a_keywords_weights a_keywords_lives vz1 a_mainSet_members x_removalSet_count a_removalSet_members x_superstring_slots x_superstring_built b_superstring_sw a_superstring_starts a_superstring_lengths a_superstring_overlaps x_superstring_area_length a_superstring_area_bytes x_superstring_spare_length a_superstring_spare_bytes x_stream_length a_stream_bytes a_matches_words x_reports_size a_reports_positions a_reports_numbers x_chosen_size a_chosen_positions a_chosen_numbers a_depths a_bestFrom) := hD
  refine lv_aload_n hx hb dX7_rebuild_17 rfl (lv_at hl 0 rfl) ?_
  refine va_get (ci := 7) (v := .ref (ad 11)) (C := RX7) (T := TX7) (N := 15) hx hb hts hiX7 hown hK hP 0 rfl rfl 4 (by decide) hf41 (fun _ h9 => h9) rfl dX7_rebuild_18 ?_
  obtain ⟨vz2, hcz, hs⟩ := bd1_some hs
  refine k_wV (As := []) (rest := []) (st1 := []) (wc := [((ad 11), .inr (0, [.ref (ad 12), .int (iI x_removalSet_count)])), ((ad 12), .inl (cI, 127, .inl (mI a_removalSet_members)))]) (w1 := [((ad 11), .inr (0, [.ref (ad 12), .int (iI vz2)])), ((ad 12), .inl (cI, 127, .inl (mI a_removalSet_members)))]) ⟨hx, hb, hml, hown, hts⟩ hK hP hD hSz hA [11, 12] rfl (by decide) (c_X0_clear l D cI cZ cJ hcz) (cwV 0 hts gX7_rebuild_X0_clear rfl rfl rfl (by decide +kernel) ⟨Nat.le_of_ble_eq_true rfl, Nat.le_of_ble_eq_true rfl⟩) 11 rfl rfl rfl rfl rfl hl.1 rfl (lv_room (Nat.le_of_ble_eq_true rfl)) dX7_rebuild_21 ⟨Nat.zero_le _, Nat.zero_le _⟩ rfl (fun Hz lz hP hD hSz => ?_)
  have hP : va_P D vwCl (wK cI cZ cJ ad x_work (x_rebuilds + 1) x_reported x_folding_on x_buffer_length a_buffer_bytes x_keywords_given x_keywords_alive a_keywords_bytes a_keywords_lengths a_keywords_weights a_keywords_lives vz1 a_mainSet_members vz2 a_removalSet_members x_superstring_slots x_superstring_built b_superstring_sw a_superstring_starts a_superstring_lengths a_superstring_overlaps x_superstring_area_length a_superstring_area_bytes x_superstring_spare_length a_superstring_spare_bytes x_stream_length a_stream_bytes a_matches_words x_reports_size a_reports_positions a_reports_numbers x_chosen_size a_chosen_positions a_chosen_numbers a_depths a_bestFrom) Hz := hP
  have hD : va_D Az (wK cI cZ cJ ad x_work (x_rebuilds + 1) x_reported x_folding_on x_buffer_length a_buffer_bytes x_keywords_given x_keywords_alive a_keywords_bytes a_keywords_lengths a_keywords_weights a_keywords_lives vz1 a_mainSet_members vz2 a_removalSet_members x_superstring_slots x_superstring_built b_superstring_sw a_superstring_starts a_superstring_lengths a_superstring_overlaps x_superstring_area_length a_superstring_area_bytes x_superstring_spare_length a_superstring_spare_bytes x_stream_length a_stream_bytes a_matches_words x_reports_size a_reports_positions a_reports_numbers x_chosen_size a_chosen_positions a_chosen_numbers a_depths a_bestFrom) := hD
  refine k_iconst (n := 0) hx hb dX7_rebuild_24 ?_
  refine lv_istore_n (lv' := [(1, .int (iI 0)), (0, .ref (ad 0))]) hx hb dX7_rebuild_25 rfl hl (by decide) rfl (fun ls hl => ?_)
  obtain ⟨ez7, ez8, ez9, hq, hs⟩ := bd3_some hs
  refine Lz26 FU x_work (x_rebuilds + 1) vz1 a_mainSet_members vz2 0 ez7 ez8 ez9 hq Hz lz hP hD hSz ls (lv_sub hl [1, 0] rfl) ?_
  intro Hz lz hP hD hSz ls hl
  cases hs
  exact k_vret_w hx hb hr hlk (by rw [hw1]; exact hP) hSz dX7_rebuild_71 rfl
/-! X7_removeKeyword -/
set_option maxHeartbeats 4000000 in
set_option maxRecDepth 100000 in
theorem c_X7_removeKeyword (l : Launch) (D : va_G) (cI cZ cJ : ClassId) {ad : Nat → Nat} {x_work : Int} {x_rebuilds : Int} {x_reported : Int} {x_folding_on : Int} {x_buffer_length : Int} {a_buffer_bytes : (Int → Int)} {x_keywords_given : Int} {x_keywords_alive : Int} {a_keywords_bytes : (Int → Int)} {a_keywords_lengths : (Int → Int)} {a_keywords_weights : (Int → Int)} {a_keywords_lives : (Int → Int)} {x_mainSet_count : Int} {a_mainSet_members : (Int → Int)} {x_removalSet_count : Int} {a_removalSet_members : (Int → Int)} {x_superstring_slots : Int} {x_superstring_built : Int} {b_superstring_sw : Bool} {a_superstring_starts : (Int → Int)} {a_superstring_lengths : (Int → Int)} {a_superstring_overlaps : (Int → Int)} {x_superstring_area_length : Int} {a_superstring_area_bytes : (Int → Int)} {x_superstring_spare_length : Int} {a_superstring_spare_bytes : (Int → Int)} {x_stream_length : Int} {a_stream_bytes : (Int → Int)} {a_matches_words : (Int → Int)} {x_reports_size : Int} {a_reports_positions : (Int → Int)} {a_reports_numbers : (Int → Int)} {x_chosen_size : Int} {a_chosen_positions : (Int → Int)} {a_chosen_numbers : (Int → Int)} {a_depths : (Int → Int)} {a_bestFrom : (Int → Int)} {pz1 : Int} {r : Int} {y_x_work : Int} {y_x_rebuilds : Int} {y_x_keywords_alive : Int} {y_a_keywords_lives : (Int → Int)} {y_x_mainSet_count : Int} {y_a_mainSet_members : (Int → Int)} {y_x_removalSet_count : Int} {y_a_removalSet_members : (Int → Int)} {y_x_superstring_built : Int} {y_a_matches_words : (Int → Int)} {sz : Nat} (hs : s_X7_removeKeyword x_work x_rebuilds x_keywords_given x_keywords_alive a_keywords_lengths a_keywords_lives x_mainSet_count a_mainSet_members x_removalSet_count a_removalSet_members x_superstring_built x_stream_length a_matches_words pz1 = some (r, y_x_work, y_x_rebuilds, y_x_keywords_alive, y_a_keywords_lives, y_x_mainSet_count, y_a_mainSet_members, y_x_removalSet_count, y_a_removalSet_members, y_x_superstring_built, y_a_matches_words)) : Met l yX7_removeKeyword wsX7_removeKeyword rm_X7_removeKeyword (PW D vwCl [(cI, .int), (cZ, .boolean), (cJ, .long)] [.ref (ad 0), .int (iI pz1)] (wK cI cZ cJ ad x_work x_rebuilds x_reported x_folding_on x_buffer_length a_buffer_bytes x_keywords_given x_keywords_alive a_keywords_bytes a_keywords_lengths a_keywords_weights a_keywords_lives x_mainSet_count a_mainSet_members x_removalSet_count a_removalSet_members x_superstring_slots x_superstring_built b_superstring_sw a_superstring_starts a_superstring_lengths a_superstring_overlaps x_superstring_area_length a_superstring_area_bytes x_superstring_spare_length a_superstring_spare_bytes x_stream_length a_stream_bytes a_matches_words x_reports_size a_reports_positions a_reports_numbers x_chosen_size a_chosen_positions a_chosen_numbers a_depths a_bestFrom) sz) (QW D vwCl (some (.int (iI r))) (wK cI cZ cJ ad y_x_work y_x_rebuilds x_reported x_folding_on x_buffer_length a_buffer_bytes x_keywords_given y_x_keywords_alive a_keywords_bytes a_keywords_lengths a_keywords_weights y_a_keywords_lives y_x_mainSet_count y_a_mainSet_members y_x_removalSet_count y_a_removalSet_members x_superstring_slots y_x_superstring_built b_superstring_sw a_superstring_starts a_superstring_lengths a_superstring_overlaps x_superstring_area_length a_superstring_area_bytes x_superstring_spare_length a_superstring_spare_bytes x_stream_length a_stream_bytes y_a_matches_words x_reports_size a_reports_positions a_reports_numbers x_chosen_size a_chosen_positions a_chosen_numbers a_depths a_bestFrom) (va_A (wK cI cZ cJ ad x_work x_rebuilds x_reported x_folding_on x_buffer_length a_buffer_bytes x_keywords_given x_keywords_alive a_keywords_bytes a_keywords_lengths a_keywords_weights a_keywords_lives x_mainSet_count a_mainSet_members x_removalSet_count a_removalSet_members x_superstring_slots x_superstring_built b_superstring_sw a_superstring_starts a_superstring_lengths a_superstring_overlaps x_superstring_area_length a_superstring_area_bytes x_superstring_spare_length a_superstring_spare_bytes x_stream_length a_stream_bytes a_matches_words x_reports_size a_reports_positions a_reports_numbers x_chosen_size a_chosen_positions a_chosen_numbers a_depths a_bestFrom) sz)) 0 0 (va_A (wK cI cZ cJ ad x_work x_rebuilds x_reported x_folding_on x_buffer_length a_buffer_bytes x_keywords_given x_keywords_alive a_keywords_bytes a_keywords_lengths a_keywords_weights a_keywords_lives x_mainSet_count a_mainSet_members x_removalSet_count a_removalSet_members x_superstring_slots x_superstring_built b_superstring_sw a_superstring_starts a_superstring_lengths a_superstring_overlaps x_superstring_area_length a_superstring_area_bytes x_superstring_spare_length a_superstring_spare_bytes x_stream_length a_stream_bytes a_matches_words x_reports_size a_reports_positions a_reports_numbers x_chosen_size a_chosen_positions a_chosen_numbers a_depths a_bestFrom) sz) := by
  refine Met.ofW (cc := cX7_removeKeyword) (maxL := 2) (ret := (some .int)) (by decide) rfl ?_
  intro p e s m args below meth c s₁ B hml hv
  obtain ⟨hav, hsz, hP, hK, hD0⟩ := hv
  have hx := B.exec
  have hb := B.bytes
  have hr := B.returns
  have hts := atoms_spec (ws := wsX7_removeKeyword) B.pre
  have hown : s.vm.findClass RX7 = some m.cls := findClass_of_methodNamed B.named
  have hlk := B.notSynchronized
  have hf30 : (Cond.fieldLink RX7 30 "KeywordMatcher" "keywords" "LKeywordMatcher$Keywords;").before args s = true := hts _ (List.mem_of_getElem? (i := 1) rfl)
  have hiX7 : ∀ w ∈ wsX70, w ∈ wsX7_removeKeyword := fun w h => List.mem_cons_of_mem _ (List.mem_append_left _ (List.mem_append_left _ (List.mem_append_left _ (List.mem_append_left _ (List.mem_append_left _ (List.mem_append_right _ h))))))
  have hf47 : (Cond.fieldLink RX7 47 "KeywordMatcher" "superstring" "LKeywordMatcher$Superstring;").before args s = true := hts _ (List.mem_of_getElem? (i := 2) rfl)
  have hf79 : (Cond.fieldLink RX7 79 "KeywordMatcher" "work" "I").before args s = true := hts _ (List.mem_of_getElem? (i := 3) rfl)
  have hf41 : (Cond.fieldLink RX7 41 "KeywordMatcher" "removalSet" "LKeywordMatcher$BucketSet;").before args s = true := hts _ (List.mem_of_getElem? (i := 4) rfl)
  have hf147 : (Cond.fieldLink RX7 147 "KeywordMatcher$BucketSet" "count" "I").before args s = true := hts _ (List.mem_of_getElem? (i := 5) rfl)
  have hiX0 : ∀ w ∈ wsX00, w ∈ wsX7_removeKeyword := fun w h => List.mem_cons_of_mem _ (List.mem_append_left _ (List.mem_append_left _ (List.mem_append_left _ (List.mem_append_left _ (List.mem_append_right _ h)))))
  have hf37 : (Cond.fieldLink RX7 37 "KeywordMatcher" "mainSet" "LKeywordMatcher$BucketSet;").before args s = true := hts _ (List.mem_of_getElem? (i := 6) rfl)
  have hf129 : (Cond.fieldLink RX7 129 "KeywordMatcher$Keywords" "alive" "I").before args s = true := hts _ (List.mem_of_getElem? (i := 7) rfl)
  have hiX3 : ∀ w ∈ wsX30, w ∈ wsX7_removeKeyword := fun w h => List.mem_cons_of_mem _ (List.mem_append_left _ (List.mem_append_left _ (List.mem_append_left _ (List.mem_append_right _ h))))
  subst hsz
  have hD := hD0.self (sz := s.heap.size)
  generalize hAe : va_A (wK cI cZ cJ ad x_work x_rebuilds x_reported x_folding_on x_buffer_length a_buffer_bytes x_keywords_given x_keywords_alive a_keywords_bytes a_keywords_lengths a_keywords_weights a_keywords_lives x_mainSet_count a_mainSet_members x_removalSet_count a_removalSet_members x_superstring_slots x_superstring_built b_superstring_sw a_superstring_starts a_superstring_lengths a_superstring_overlaps x_superstring_area_length a_superstring_area_bytes x_superstring_spare_length a_superstring_spare_bytes x_stream_length a_stream_bytes a_matches_words x_reports_size a_reports_positions a_reports_numbers x_chosen_size a_chosen_positions a_chosen_numbers a_depths a_bestFrom) s.heap.size = Az at hD ⊢
  have hA : ∀ q : Nat, s.heap.size ≤ q → Az q := fun q h => by rw [← hAe]; exact Or.inr h
  clear hAe
  have hSz : va_S Az s.heap s.heap [] := va_S.rf
  obtain ⟨wz, hw1⟩ : ∃ z : va_W, z = (wK cI cZ cJ ad y_x_work y_x_rebuilds x_reported x_folding_on x_buffer_length a_buffer_bytes x_keywords_given y_x_keywords_alive a_keywords_bytes a_keywords_lengths a_keywords_weights y_a_keywords_lives y_x_mainSet_count y_a_mainSet_members y_x_removalSet_count y_a_removalSet_members x_superstring_slots y_x_superstring_built b_superstring_sw a_superstring_starts a_superstring_lengths a_superstring_overlaps x_superstring_area_length a_superstring_area_bytes x_superstring_spare_length a_superstring_spare_bytes x_stream_length a_stream_bytes y_a_matches_words x_reports_size a_reports_positions a_reports_numbers x_chosen_size a_chosen_positions a_chosen_numbers a_depths a_bestFrom) := ⟨_, rfl⟩
  rw [← hw1]
  have hl := lv_entry ([.ref (ad 0), .int (iI pz1)]) (n := 2) (Nat.le_of_ble_eq_true rfl)
  rw [show entryFrame m args 2 = entryFrame m ([.ref (ad 0), .int (iI pz1)] : List Value).toArray 2 from by rw [hav], lg_entry_eq]
  generalize (lg_sl ([.ref (ad 0), .int (iI pz1)]) ++ List.replicate (2 - (lg_sl ([.ref (ad 0), .int (iI pz1)])).length) Slot.unset).toArray = ls at hl ⊢
  have hl : lv_has ls 2 [(0, .ref (ad 0)), (1, .int (iI pz1))] := hl
  unfold s_X7_removeKeyword at hs
  refine (?_ : ∀ (Hz : Heap) (lz : List Loc), va_P D vwCl (wK cI cZ cJ ad x_work x_rebuilds x_reported x_folding_on x_buffer_length a_buffer_bytes x_keywords_given x_keywords_alive a_keywords_bytes a_keywords_lengths a_keywords_weights a_keywords_lives x_mainSet_count a_mainSet_members x_removalSet_count a_removalSet_members x_superstring_slots x_superstring_built b_superstring_sw a_superstring_starts a_superstring_lengths a_superstring_overlaps x_superstring_area_length a_superstring_area_bytes x_superstring_spare_length a_superstring_spare_bytes x_stream_length a_stream_bytes a_matches_words x_reports_size a_reports_positions a_reports_numbers x_chosen_size a_chosen_positions a_chosen_numbers a_depths a_bestFrom) Hz → va_D Az (wK cI cZ cJ ad x_work x_rebuilds x_reported x_folding_on x_buffer_length a_buffer_bytes x_keywords_given x_keywords_alive a_keywords_bytes a_keywords_lengths a_keywords_weights a_keywords_lives x_mainSet_count a_mainSet_members x_removalSet_count a_removalSet_members x_superstring_slots x_superstring_built b_superstring_sw a_superstring_starts a_superstring_lengths a_superstring_overlaps x_superstring_area_length a_superstring_area_bytes x_superstring_spare_length a_superstring_spare_bytes x_stream_length a_stream_bytes a_matches_words x_reports_size a_reports_positions a_reports_numbers x_chosen_size a_chosen_positions a_chosen_numbers a_depths a_bestFrom) → va_S Az s.heap Hz lz → W p l e (headSpec wsX7_removeKeyword rm_X7_removeKeyword).room s m args below meth c Hz lz 0 0 (MQ below (QW D vwCl (some (.int (iI r))) wz Az) args s 0 0 Az) (F0 m 0 ls [])) s.heap [] hP hD hSz
  intro Hz lz hP hD hSz
  refine lv_aload_n hx hb dX7_removeKeyword_0 rfl (lv_at hl 0 rfl) ?_
  refine va_get (ci := 7) (v := .ref (ad 4)) (C := RX7) (T := TX7) (N := 15) hx hb hts hiX7 hown hK hP 0 rfl rfl 2 (by decide) hf30 (fun _ h9 => h9) rfl dX7_removeKeyword_1 ?_
  refine lv_iload_n hx hb dX7_removeKeyword_4 rfl (lv_at hl 1 rfl) ?_
  obtain ⟨vz1, hcz, hs⟩ := bd1_some hs
  have hPc : va_P D vwCl [((ad 4), .inr (3, [.ref (ad 1), .ref (ad 5), .ref (ad 6), .ref (ad 7), .ref (ad 8), .int (iI x_keywords_given), .int (iI x_keywords_alive)])), ((ad 1), .inr (2, [.int (iI x_folding_on)])), ((ad 5), .inl (cI, 1920, .inl (mI a_keywords_bytes))), ((ad 6), .inl (cI, 120, .inl (mI a_keywords_lengths))), ((ad 7), .inl (cI, 120, .inl (mI a_keywords_weights))), ((ad 8), .inl (cZ, 120, .inl (mI a_keywords_lives)))] Hz := hP.sub [4, 1, 5, 6, 7, 8] rfl
  refine k_rV (As := [.int (iI pz1)]) (rest := []) (st1 := [.int (iI vz1)]) ⟨hx, hb, hml, hown, hts⟩ hK hPc (c_X3_isAlive l D cI cZ cJ hcz) (cwV 1 hts gX7_removeKeyword_X3_isAlive rfl rfl rfl (by decide +kernel) ⟨Nat.le_of_ble_eq_true rfl, Nat.le_of_ble_eq_true rfl⟩) 0 rfl rfl rfl rfl hl.1 rfl (lv_room (Nat.le_of_ble_eq_true rfl)) dX7_removeKeyword_5 ⟨Nat.zero_le _, Nat.zero_le _⟩ rfl ?_
  refine k_if_ne (tgt := 14) hx hb hs dX7_removeKeyword_8 (by decide) (fun hs => ?_) (fun hs => ?_)
  · refine k_bipush (n := (-2)) hx hb (by decide) dX7_removeKeyword_11 ?_
    cases hs
    exact k_iret_w hx hb hr hlk (by rw [hw1]; exact hP) hSz dX7_removeKeyword_13 rfl
  · refine lv_aload_n hx hb dX7_removeKeyword_14 rfl (lv_at hl 0 rfl) ?_
    refine lv_iload_n hx hb dX7_removeKeyword_15 rfl (lv_at hl 1 rfl) ?_
    obtain ⟨vz2, hcz, hs⟩ := bd1_some hs
    refine k_wVs (As := [.int (iI pz1)]) (rest := []) (st1 := []) (w1 := (wK cI cZ cJ ad x_work x_rebuilds x_reported x_folding_on x_buffer_length a_buffer_bytes x_keywords_given x_keywords_alive a_keywords_bytes a_keywords_lengths a_keywords_weights a_keywords_lives x_mainSet_count a_mainSet_members x_removalSet_count a_removalSet_members x_superstring_slots x_superstring_built b_superstring_sw a_superstring_starts a_superstring_lengths a_superstring_overlaps x_superstring_area_length a_superstring_area_bytes x_superstring_spare_length a_superstring_spare_bytes x_stream_length a_stream_bytes vz2 x_reports_size a_reports_positions a_reports_numbers x_chosen_size a_chosen_positions a_chosen_numbers a_depths a_bestFrom)) ⟨hx, hb, hml, hown, hts⟩ hK hP hD hSz hA (c_X7_dropAllMatchesOf l D cI cZ cJ hcz) (cwV 1 hts gX7_removeKeyword_X7_dropAllMatchesOf rfl rfl rfl (by decide +kernel) ⟨Nat.le_of_ble_eq_true rfl, Nat.le_of_ble_eq_true rfl⟩) 0 rfl rfl rfl rfl rfl hl.1 rfl (lv_room (Nat.le_of_ble_eq_true rfl)) dX7_removeKeyword_16 ⟨Nat.zero_le _, Nat.zero_le _⟩ rfl (fun Hz lz hP hD hSz => ?_)
    have hP : va_P D vwCl (wK cI cZ cJ ad x_work x_rebuilds x_reported x_folding_on x_buffer_length a_buffer_bytes x_keywords_given x_keywords_alive a_keywords_bytes a_keywords_lengths a_keywords_weights a_keywords_lives x_mainSet_count a_mainSet_members x_removalSet_count a_removalSet_members x_superstring_slots x_superstring_built b_superstring_sw a_superstring_starts a_superstring_lengths a_superstring_overlaps x_superstring_area_length a_superstring_area_bytes x_superstring_spare_length a_superstring_spare_bytes x_stream_length a_stream_bytes vz2 x_reports_size a_reports_positions a_reports_numbers x_chosen_size a_chosen_positions a_chosen_numbers a_depths a_bestFrom) Hz := hP
    have hD : va_D Az (wK cI cZ cJ ad x_work x_rebuilds x_reported x_folding_on x_buffer_length a_buffer_bytes x_keywords_given x_keywords_alive a_keywords_bytes a_keywords_lengths a_keywords_weights a_keywords_lives x_mainSet_count a_mainSet_members x_removalSet_count a_removalSet_members x_superstring_slots x_superstring_built b_superstring_sw a_superstring_starts a_superstring_lengths a_superstring_overlaps x_superstring_area_length a_superstring_area_bytes x_superstring_spare_length a_superstring_spare_bytes x_stream_length a_stream_bytes vz2 x_reports_size a_reports_positions a_reports_numbers x_chosen_size a_chosen_positions a_chosen_numbers a_depths a_bestFrom) := hD
    refine lv_aload_n hx hb dX7_removeKeyword_19 rfl (lv_at hl 0 rfl) ?_
    refine va_get (ci := 7) (v := .ref (ad 4)) (C := RX7) (T := TX7) (N := 15) hx hb hts hiX7 hown hK hP 0 rfl rfl 2 (by decide) hf30 (fun _ h9 => h9) rfl dX7_removeKeyword_20 ?_
    refine lv_iload_n hx hb dX7_removeKeyword_23 rfl (lv_at hl 1 rfl) ?_
    obtain ⟨vz3, vz4, hcz, hs⟩ := bd2_some hs
    refine k_wV (As := [.int (iI pz1)]) (rest := []) (st1 := []) (wc := [((ad 4), .inr (3, [.ref (ad 1), .ref (ad 5), .ref (ad 6), .ref (ad 7), .ref (ad 8), .int (iI x_keywords_given), .int (iI x_keywords_alive)])), ((ad 1), .inr (2, [.int (iI x_folding_on)])), ((ad 5), .inl (cI, 1920, .inl (mI a_keywords_bytes))), ((ad 6), .inl (cI, 120, .inl (mI a_keywords_lengths))), ((ad 7), .inl (cI, 120, .inl (mI a_keywords_weights))), ((ad 8), .inl (cZ, 120, .inl (mI a_keywords_lives)))]) (w1 := [((ad 4), .inr (3, [.ref (ad 1), .ref (ad 5), .ref (ad 6), .ref (ad 7), .ref (ad 8), .int (iI x_keywords_given), .int (iI vz3)])), ((ad 1), .inr (2, [.int (iI x_folding_on)])), ((ad 5), .inl (cI, 1920, .inl (mI a_keywords_bytes))), ((ad 6), .inl (cI, 120, .inl (mI a_keywords_lengths))), ((ad 7), .inl (cI, 120, .inl (mI a_keywords_weights))), ((ad 8), .inl (cZ, 120, .inl (mI vz4)))]) ⟨hx, hb, hml, hown, hts⟩ hK hP hD hSz hA [4, 1, 5, 6, 7, 8] rfl (by decide) (c_X3_retire l D cI cZ cJ hcz) (cwV 1 hts gX7_removeKeyword_X3_retire rfl rfl rfl (by decide +kernel) ⟨Nat.le_of_ble_eq_true rfl, Nat.le_of_ble_eq_true rfl⟩) 4 rfl rfl rfl rfl rfl hl.1 rfl (lv_room (Nat.le_of_ble_eq_true rfl)) dX7_removeKeyword_24 ⟨Nat.zero_le _, Nat.zero_le _⟩ rfl (fun Hz lz hP hD hSz => ?_)
    have hP : va_P D vwCl (wK cI cZ cJ ad x_work x_rebuilds x_reported x_folding_on x_buffer_length a_buffer_bytes x_keywords_given vz3 a_keywords_bytes a_keywords_lengths a_keywords_weights vz4 x_mainSet_count a_mainSet_members x_removalSet_count a_removalSet_members x_superstring_slots x_superstring_built b_superstring_sw a_superstring_starts a_superstring_lengths a_superstring_overlaps x_superstring_area_length a_superstring_area_bytes x_superstring_spare_length a_superstring_spare_bytes x_stream_length a_stream_bytes vz2 x_reports_size a_reports_positions a_reports_numbers x_chosen_size a_chosen_positions a_chosen_numbers a_depths a_bestFrom) Hz := hP
    have hD : va_D Az (wK cI cZ cJ ad x_work x_rebuilds x_reported x_folding_on x_buffer_length a_buffer_bytes x_keywords_given vz3 a_keywords_bytes a_keywords_lengths a_keywords_weights vz4 x_mainSet_count a_mainSet_members x_removalSet_count a_removalSet_members x_superstring_slots x_superstring_built b_superstring_sw a_superstring_starts a_superstring_lengths a_superstring_overlaps x_superstring_area_length a_superstring_area_bytes x_superstring_spare_length a_superstring_spare_bytes x_stream_length a_stream_bytes vz2 x_reports_size a_reports_positions a_reports_numbers x_chosen_size a_chosen_positions a_chosen_numbers a_depths a_bestFrom) := hD
    refine lv_aload_n hx hb dX7_removeKeyword_27 rfl (lv_at hl 0 rfl) ?_
    refine va_get (ci := 7) (v := .ref (ad 13)) (C := RX7) (T := TX7) (N := 15) hx hb hts hiX7 hown hK hP 0 rfl rfl 5 (by decide) hf47 (fun _ h9 => h9) rfl dX7_removeKeyword_28 ?_
    obtain ⟨vz5, hcz, hs⟩ := bd1_some hs
    refine k_wV (As := []) (rest := []) (st1 := []) (wc := (wS cI cZ cJ (ad 13) (ad 1) (ad 14) (ad 15) (ad 16) (ad 17) (ad 18) (ad 19) (ad 20) x_superstring_slots x_superstring_built b_superstring_sw x_folding_on a_superstring_starts a_superstring_lengths a_superstring_overlaps x_superstring_area_length a_superstring_area_bytes x_superstring_spare_length a_superstring_spare_bytes)) (w1 := (wS cI cZ cJ (ad 13) (ad 1) (ad 14) (ad 15) (ad 16) (ad 17) (ad 18) (ad 19) (ad 20) x_superstring_slots vz5 b_superstring_sw x_folding_on a_superstring_starts a_superstring_lengths a_superstring_overlaps x_superstring_area_length a_superstring_area_bytes x_superstring_spare_length a_superstring_spare_bytes)) ⟨hx, hb, hml, hown, hts⟩ hK hP hD hSz hA [13, 1, 14, 15, 16, 17, 18, 19, 20] rfl (by decide) (c_X6_forget l D cI cZ cJ hcz) (cwV 0 hts gX7_removeKeyword_X6_forget rfl rfl rfl (by decide +kernel) ⟨Nat.le_of_ble_eq_true rfl, Nat.le_of_ble_eq_true rfl⟩) 13 rfl rfl rfl rfl rfl hl.1 rfl (lv_room (Nat.le_of_ble_eq_true rfl)) dX7_removeKeyword_31 ⟨Nat.zero_le _, Nat.zero_le _⟩ rfl (fun Hz lz hP hD hSz => ?_)
    have hP : va_P D vwCl (wK cI cZ cJ ad x_work x_rebuilds x_reported x_folding_on x_buffer_length a_buffer_bytes x_keywords_given vz3 a_keywords_bytes a_keywords_lengths a_keywords_weights vz4 x_mainSet_count a_mainSet_members x_removalSet_count a_removalSet_members x_superstring_slots vz5 b_superstring_sw a_superstring_starts a_superstring_lengths a_superstring_overlaps x_superstring_area_length a_superstring_area_bytes x_superstring_spare_length a_superstring_spare_bytes x_stream_length a_stream_bytes vz2 x_reports_size a_reports_positions a_reports_numbers x_chosen_size a_chosen_positions a_chosen_numbers a_depths a_bestFrom) Hz := hP
    have hD : va_D Az (wK cI cZ cJ ad x_work x_rebuilds x_reported x_folding_on x_buffer_length a_buffer_bytes x_keywords_given vz3 a_keywords_bytes a_keywords_lengths a_keywords_weights vz4 x_mainSet_count a_mainSet_members x_removalSet_count a_removalSet_members x_superstring_slots vz5 b_superstring_sw a_superstring_starts a_superstring_lengths a_superstring_overlaps x_superstring_area_length a_superstring_area_bytes x_superstring_spare_length a_superstring_spare_bytes x_stream_length a_stream_bytes vz2 x_reports_size a_reports_positions a_reports_numbers x_chosen_size a_chosen_positions a_chosen_numbers a_depths a_bestFrom) := hD
    refine lv_aload_n hx hb dX7_removeKeyword_34 rfl (lv_at hl 0 rfl) ?_
    refine lv_dup hx hb dX7_removeKeyword_35 rfl ?_
    refine va_get (ci := 7) (v := .int (iI x_work)) (C := RX7) (T := TX7) (N := 15) hx hb hts hiX7 hown hK hP 0 rfl rfl 12 (by decide) hf79 (fun _ h9 => h9) rfl dX7_removeKeyword_36 ?_
    refine lv_aload_n hx hb dX7_removeKeyword_39 rfl (lv_at hl 0 rfl) ?_
    refine va_get (ci := 7) (v := .ref (ad 11)) (C := RX7) (T := TX7) (N := 15) hx hb hts hiX7 hown hK hP 0 rfl rfl 4 (by decide) hf41 (fun _ h9 => h9) rfl dX7_removeKeyword_40 ?_
    refine lv_iload_n hx hb dX7_removeKeyword_43 rfl (lv_at hl 1 rfl) ?_
    obtain ⟨vz6, vz7, vz8, hcz, hs⟩ := bd3_some hs
    refine k_wV (As := [.int (iI pz1)]) (rest := [.int (iI x_work), .ref (ad 0)]) (st1 := [.int (iI vz6), .int (iI x_work), .ref (ad 0)]) (wc := [((ad 11), .inr (0, [.ref (ad 12), .int (iI x_removalSet_count)])), ((ad 12), .inl (cI, 127, .inl (mI a_removalSet_members)))]) (w1 := [((ad 11), .inr (0, [.ref (ad 12), .int (iI vz7)])), ((ad 12), .inl (cI, 127, .inl (mI vz8)))]) ⟨hx, hb, hml, hown, hts⟩ hK hP hD hSz hA [11, 12] rfl (by decide) (c_X0_insert l D cI cZ cJ hcz) (cwV 1 hts gX7_removeKeyword_X0_insert rfl rfl rfl (by decide +kernel) ⟨Nat.le_of_ble_eq_true rfl, Nat.le_of_ble_eq_true rfl⟩) 11 rfl rfl rfl rfl rfl hl.1 rfl (lv_room (Nat.le_of_ble_eq_true rfl)) dX7_removeKeyword_44 ⟨Nat.zero_le _, Nat.zero_le _⟩ rfl (fun Hz lz hP hD hSz => ?_)
    have hP : va_P D vwCl (wK cI cZ cJ ad x_work x_rebuilds x_reported x_folding_on x_buffer_length a_buffer_bytes x_keywords_given vz3 a_keywords_bytes a_keywords_lengths a_keywords_weights vz4 x_mainSet_count a_mainSet_members vz7 vz8 x_superstring_slots vz5 b_superstring_sw a_superstring_starts a_superstring_lengths a_superstring_overlaps x_superstring_area_length a_superstring_area_bytes x_superstring_spare_length a_superstring_spare_bytes x_stream_length a_stream_bytes vz2 x_reports_size a_reports_positions a_reports_numbers x_chosen_size a_chosen_positions a_chosen_numbers a_depths a_bestFrom) Hz := hP
    have hD : va_D Az (wK cI cZ cJ ad x_work x_rebuilds x_reported x_folding_on x_buffer_length a_buffer_bytes x_keywords_given vz3 a_keywords_bytes a_keywords_lengths a_keywords_weights vz4 x_mainSet_count a_mainSet_members vz7 vz8 x_superstring_slots vz5 b_superstring_sw a_superstring_starts a_superstring_lengths a_superstring_overlaps x_superstring_area_length a_superstring_area_bytes x_superstring_spare_length a_superstring_spare_bytes x_stream_length a_stream_bytes vz2 x_reports_size a_reports_positions a_reports_numbers x_chosen_size a_chosen_positions a_chosen_numbers a_depths a_bestFrom) := hD
    refine k_iadd hx hb dX7_removeKeyword_47 ?_
    refine va_put (ci := 7) (v := .int (iI (x_work + vz6))) (ty := .int) (C := RX7) (T := TX7) (N := 15) hx hb hts hiX7 tyX7 tyX7_ok nmX7 hown hK hP hD hSz 0 rfl rfl 12 (by decide) hf79 (fun _ h9 => h9) rfl (by decide +kernel) rfl rfl (Nat.le_of_ble_eq_true rfl) dX7_removeKeyword_48 (fun Hz lz hP hD hSz => ?_)
    have hP : va_P D vwCl (wK cI cZ cJ ad (x_work + vz6) x_rebuilds x_reported x_folding_on x_buffer_length a_buffer_bytes x_keywords_given vz3 a_keywords_bytes a_keywords_lengths a_keywords_weights vz4 x_mainSet_count a_mainSet_members vz7 vz8 x_superstring_slots vz5 b_superstring_sw a_superstring_starts a_superstring_lengths a_superstring_overlaps x_superstring_area_length a_superstring_area_bytes x_superstring_spare_length a_superstring_spare_bytes x_stream_length a_stream_bytes vz2 x_reports_size a_reports_positions a_reports_numbers x_chosen_size a_chosen_positions a_chosen_numbers a_depths a_bestFrom) Hz := hP
    have hD : va_D Az (wK cI cZ cJ ad (x_work + vz6) x_rebuilds x_reported x_folding_on x_buffer_length a_buffer_bytes x_keywords_given vz3 a_keywords_bytes a_keywords_lengths a_keywords_weights vz4 x_mainSet_count a_mainSet_members vz7 vz8 x_superstring_slots vz5 b_superstring_sw a_superstring_starts a_superstring_lengths a_superstring_overlaps x_superstring_area_length a_superstring_area_bytes x_superstring_spare_length a_superstring_spare_bytes x_stream_length a_stream_bytes vz2 x_reports_size a_reports_positions a_reports_numbers x_chosen_size a_chosen_positions a_chosen_numbers a_depths a_bestFrom) := hD
    refine k_iconst (n := 2) hx hb dX7_removeKeyword_51 ?_
    refine lv_aload_n hx hb dX7_removeKeyword_52 rfl (lv_at hl 0 rfl) ?_
    refine va_get (ci := 7) (v := .ref (ad 11)) (C := RX7) (T := TX7) (N := 15) hx hb hts hiX7 hown hK hP 0 rfl rfl 4 (by decide) hf41 (fun _ h9 => h9) rfl dX7_removeKeyword_53 ?_
    refine va_get (ci := 0) (v := .int (iI vz7)) (C := RX0) (T := TX0) (N := 2) hx hb hts hiX0 hown hK hP 11 rfl rfl 1 (by decide) hf147 (fun _ h9 => h9) rfl dX7_removeKeyword_56 ?_
    refine k_imul hx hb dX7_removeKeyword_59 ?_
    refine lv_aload_n hx hb dX7_removeKeyword_60 rfl (lv_at hl 0 rfl) ?_
    refine va_get (ci := 7) (v := .ref (ad 9)) (C := RX7) (T := TX7) (N := 15) hx hb hts hiX7 hown hK hP 0 rfl rfl 3 (by decide) hf37 (fun _ h9 => h9) rfl dX7_removeKeyword_61 ?_
    refine va_get (ci := 0) (v := .int (iI x_mainSet_count)) (C := RX0) (T := TX0) (N := 2) hx hb hts hiX0 hown hK hP 9 rfl rfl 1 (by decide) hf147 (fun _ h9 => h9) rfl dX7_removeKeyword_64 ?_
    refine k_icmp_lt (tgt := 74) hx hb hs dX7_removeKeyword_67 (by decide) (fun hs => ?_) (fun hs => ?_)
    · refine lv_aload_n hx hb dX7_removeKeyword_74 rfl (lv_at hl 0 rfl) ?_
      refine va_get (ci := 7) (v := .ref (ad 4)) (C := RX7) (T := TX7) (N := 15) hx hb hts hiX7 hown hK hP 0 rfl rfl 2 (by decide) hf30 (fun _ h9 => h9) rfl dX7_removeKeyword_75 ?_
      refine va_get (ci := 3) (v := .int (iI vz3)) (C := RX3) (T := TX3) (N := 7) hx hb hts hiX3 hown hK hP 4 rfl rfl 6 (by decide) hf129 (fun _ h9 => h9) rfl dX7_removeKeyword_78 ?_
      cases hs
      exact k_iret_w hx hb hr hlk (by rw [hw1]; exact hP) hSz dX7_removeKeyword_81 rfl
    · refine lv_aload_n hx hb dX7_removeKeyword_70 rfl (lv_at hl 0 rfl) ?_
      obtain ⟨vz9, vz10, vz11, vz12, vz13, hcz, hs⟩ := bd5_some hs
      refine k_wVs (As := []) (rest := []) (st1 := []) (w1 := (wK cI cZ cJ ad vz9 vz10 x_reported x_folding_on x_buffer_length a_buffer_bytes x_keywords_given vz3 a_keywords_bytes a_keywords_lengths a_keywords_weights vz4 vz11 vz12 vz13 vz8 x_superstring_slots vz5 b_superstring_sw a_superstring_starts a_superstring_lengths a_superstring_overlaps x_superstring_area_length a_superstring_area_bytes x_superstring_spare_length a_superstring_spare_bytes x_stream_length a_stream_bytes vz2 x_reports_size a_reports_positions a_reports_numbers x_chosen_size a_chosen_positions a_chosen_numbers a_depths a_bestFrom)) ⟨hx, hb, hml, hown, hts⟩ hK hP hD hSz hA (c_X7_rebuild l D cI cZ cJ hcz) (cwV 0 hts gX7_removeKeyword_X7_rebuild rfl rfl rfl (by decide +kernel) ⟨Nat.le_of_ble_eq_true rfl, Nat.le_of_ble_eq_true rfl⟩) 0 rfl rfl rfl rfl rfl hl.1 rfl (lv_room (Nat.le_of_ble_eq_true rfl)) dX7_removeKeyword_71 ⟨Nat.zero_le _, Nat.zero_le _⟩ rfl (fun Hz lz hP hD hSz => ?_)
      have hP : va_P D vwCl (wK cI cZ cJ ad vz9 vz10 x_reported x_folding_on x_buffer_length a_buffer_bytes x_keywords_given vz3 a_keywords_bytes a_keywords_lengths a_keywords_weights vz4 vz11 vz12 vz13 vz8 x_superstring_slots vz5 b_superstring_sw a_superstring_starts a_superstring_lengths a_superstring_overlaps x_superstring_area_length a_superstring_area_bytes x_superstring_spare_length a_superstring_spare_bytes x_stream_length a_stream_bytes vz2 x_reports_size a_reports_positions a_reports_numbers x_chosen_size a_chosen_positions a_chosen_numbers a_depths a_bestFrom) Hz := hP
      have hD : va_D Az (wK cI cZ cJ ad vz9 vz10 x_reported x_folding_on x_buffer_length a_buffer_bytes x_keywords_given vz3 a_keywords_bytes a_keywords_lengths a_keywords_weights vz4 vz11 vz12 vz13 vz8 x_superstring_slots vz5 b_superstring_sw a_superstring_starts a_superstring_lengths a_superstring_overlaps x_superstring_area_length a_superstring_area_bytes x_superstring_spare_length a_superstring_spare_bytes x_stream_length a_stream_bytes vz2 x_reports_size a_reports_positions a_reports_numbers x_chosen_size a_chosen_positions a_chosen_numbers a_depths a_bestFrom) := hD
      refine lv_aload_n hx hb dX7_removeKeyword_74 rfl (lv_at hl 0 rfl) ?_
      refine va_get (ci := 7) (v := .ref (ad 4)) (C := RX7) (T := TX7) (N := 15) hx hb hts hiX7 hown hK hP 0 rfl rfl 2 (by decide) hf30 (fun _ h9 => h9) rfl dX7_removeKeyword_75 ?_
      refine va_get (ci := 3) (v := .int (iI vz3)) (C := RX3) (T := TX3) (N := 7) hx hb hts hiX3 hown hK hP 4 rfl rfl 6 (by decide) hf129 (fun _ h9 => h9) rfl dX7_removeKeyword_78 ?_
      cases hs
      exact k_iret_w hx hb hr hlk (by rw [hw1]; exact hP) hSz dX7_removeKeyword_81 rfl
/-! X7_findKeyword -/
set_option maxHeartbeats 4000000 in
set_option maxRecDepth 100000 in
theorem c_X7_findKeyword (l : Launch) (D : va_G) (cI cZ cJ : ClassId) {ad : Nat → Nat} {x_work : Int} {x_rebuilds : Int} {x_reported : Int} {x_folding_on : Int} {x_buffer_length : Int} {a_buffer_bytes : (Int → Int)} {x_keywords_given : Int} {x_keywords_alive : Int} {a_keywords_bytes : (Int → Int)} {a_keywords_lengths : (Int → Int)} {a_keywords_weights : (Int → Int)} {a_keywords_lives : (Int → Int)} {x_mainSet_count : Int} {a_mainSet_members : (Int → Int)} {x_removalSet_count : Int} {a_removalSet_members : (Int → Int)} {x_superstring_slots : Int} {x_superstring_built : Int} {b_superstring_sw : Bool} {a_superstring_starts : (Int → Int)} {a_superstring_lengths : (Int → Int)} {a_superstring_overlaps : (Int → Int)} {x_superstring_area_length : Int} {a_superstring_area_bytes : (Int → Int)} {x_superstring_spare_length : Int} {a_superstring_spare_bytes : (Int → Int)} {x_stream_length : Int} {a_stream_bytes : (Int → Int)} {a_matches_words : (Int → Int)} {x_reports_size : Int} {a_reports_positions : (Int → Int)} {a_reports_numbers : (Int → Int)} {x_chosen_size : Int} {a_chosen_positions : (Int → Int)} {a_chosen_numbers : (Int → Int)} {a_depths : (Int → Int)} {a_bestFrom : (Int → Int)} {pz1 : Int} {r : Int} {y_x_buffer_length : Int} {sz : Nat} (hs : s_X7_findKeyword x_folding_on x_buffer_length a_buffer_bytes x_keywords_given a_keywords_bytes a_keywords_lengths a_keywords_lives pz1 = some (r, y_x_buffer_length)) : Met l yX7_findKeyword wsX7_findKeyword rm_X7_findKeyword (PW D vwCl [(cI, .int), (cZ, .boolean), (cJ, .long)] [.ref (ad 0), .int (iI pz1)] (wK cI cZ cJ ad x_work x_rebuilds x_reported x_folding_on x_buffer_length a_buffer_bytes x_keywords_given x_keywords_alive a_keywords_bytes a_keywords_lengths a_keywords_weights a_keywords_lives x_mainSet_count a_mainSet_members x_removalSet_count a_removalSet_members x_superstring_slots x_superstring_built b_superstring_sw a_superstring_starts a_superstring_lengths a_superstring_overlaps x_superstring_area_length a_superstring_area_bytes x_superstring_spare_length a_superstring_spare_bytes x_stream_length a_stream_bytes a_matches_words x_reports_size a_reports_positions a_reports_numbers x_chosen_size a_chosen_positions a_chosen_numbers a_depths a_bestFrom) sz) (QW D vwCl (some (.int (iI r))) (wK cI cZ cJ ad x_work x_rebuilds x_reported x_folding_on y_x_buffer_length a_buffer_bytes x_keywords_given x_keywords_alive a_keywords_bytes a_keywords_lengths a_keywords_weights a_keywords_lives x_mainSet_count a_mainSet_members x_removalSet_count a_removalSet_members x_superstring_slots x_superstring_built b_superstring_sw a_superstring_starts a_superstring_lengths a_superstring_overlaps x_superstring_area_length a_superstring_area_bytes x_superstring_spare_length a_superstring_spare_bytes x_stream_length a_stream_bytes a_matches_words x_reports_size a_reports_positions a_reports_numbers x_chosen_size a_chosen_positions a_chosen_numbers a_depths a_bestFrom) (va_A (wK cI cZ cJ ad x_work x_rebuilds x_reported x_folding_on x_buffer_length a_buffer_bytes x_keywords_given x_keywords_alive a_keywords_bytes a_keywords_lengths a_keywords_weights a_keywords_lives x_mainSet_count a_mainSet_members x_removalSet_count a_removalSet_members x_superstring_slots x_superstring_built b_superstring_sw a_superstring_starts a_superstring_lengths a_superstring_overlaps x_superstring_area_length a_superstring_area_bytes x_superstring_spare_length a_superstring_spare_bytes x_stream_length a_stream_bytes a_matches_words x_reports_size a_reports_positions a_reports_numbers x_chosen_size a_chosen_positions a_chosen_numbers a_depths a_bestFrom) sz)) 0 0 (va_A (wK cI cZ cJ ad x_work x_rebuilds x_reported x_folding_on x_buffer_length a_buffer_bytes x_keywords_given x_keywords_alive a_keywords_bytes a_keywords_lengths a_keywords_weights a_keywords_lives x_mainSet_count a_mainSet_members x_removalSet_count a_removalSet_members x_superstring_slots x_superstring_built b_superstring_sw a_superstring_starts a_superstring_lengths a_superstring_overlaps x_superstring_area_length a_superstring_area_bytes x_superstring_spare_length a_superstring_spare_bytes x_stream_length a_stream_bytes a_matches_words x_reports_size a_reports_positions a_reports_numbers x_chosen_size a_chosen_positions a_chosen_numbers a_depths a_bestFrom) sz) := by
  refine Met.ofW (cc := cX7_findKeyword) (maxL := 3) (ret := (some .int)) (by decide) rfl ?_
  intro p e s m args below meth c s₁ B hml hv
  obtain ⟨hav, hsz, hP, hK, hD0⟩ := hv
  have hx := B.exec
  have hb := B.bytes
  have hr := B.returns
  have hts := atoms_spec (ws := wsX7_findKeyword) B.pre
  have hown : s.vm.findClass RX7 = some m.cls := findClass_of_methodNamed B.named
  have hlk := B.notSynchronized
  have hf30 : (Cond.fieldLink RX7 30 "KeywordMatcher" "keywords" "LKeywordMatcher$Keywords;").before args s = true := hts _ (List.mem_of_getElem? (i := 1) rfl)
  have hiX7 : ∀ w ∈ wsX70, w ∈ wsX7_findKeyword := fun w h => List.mem_cons_of_mem _ (List.mem_append_left _ (List.mem_append_left _ (List.mem_append_left _ (List.mem_append_right _ h))))
  have hf21 : (Cond.fieldLink RX7 21 "KeywordMatcher" "buffer" "LKeywordMatcher$ByteRow;").before args s = true := hts _ (List.mem_of_getElem? (i := 2) rfl)
  subst hsz
  have hD := hD0.self (sz := s.heap.size)
  generalize hAe : va_A (wK cI cZ cJ ad x_work x_rebuilds x_reported x_folding_on x_buffer_length a_buffer_bytes x_keywords_given x_keywords_alive a_keywords_bytes a_keywords_lengths a_keywords_weights a_keywords_lives x_mainSet_count a_mainSet_members x_removalSet_count a_removalSet_members x_superstring_slots x_superstring_built b_superstring_sw a_superstring_starts a_superstring_lengths a_superstring_overlaps x_superstring_area_length a_superstring_area_bytes x_superstring_spare_length a_superstring_spare_bytes x_stream_length a_stream_bytes a_matches_words x_reports_size a_reports_positions a_reports_numbers x_chosen_size a_chosen_positions a_chosen_numbers a_depths a_bestFrom) s.heap.size = Az at hD ⊢
  have hA : ∀ q : Nat, s.heap.size ≤ q → Az q := fun q h => by rw [← hAe]; exact Or.inr h
  clear hAe
  have hSz : va_S Az s.heap s.heap [] := va_S.rf
  obtain ⟨wz, hw1⟩ : ∃ z : va_W, z = (wK cI cZ cJ ad x_work x_rebuilds x_reported x_folding_on y_x_buffer_length a_buffer_bytes x_keywords_given x_keywords_alive a_keywords_bytes a_keywords_lengths a_keywords_weights a_keywords_lives x_mainSet_count a_mainSet_members x_removalSet_count a_removalSet_members x_superstring_slots x_superstring_built b_superstring_sw a_superstring_starts a_superstring_lengths a_superstring_overlaps x_superstring_area_length a_superstring_area_bytes x_superstring_spare_length a_superstring_spare_bytes x_stream_length a_stream_bytes a_matches_words x_reports_size a_reports_positions a_reports_numbers x_chosen_size a_chosen_positions a_chosen_numbers a_depths a_bestFrom) := ⟨_, rfl⟩
  rw [← hw1]
  have hl := lv_entry ([.ref (ad 0), .int (iI pz1)]) (n := 3) (Nat.le_of_ble_eq_true rfl)
  rw [show entryFrame m args 3 = entryFrame m ([.ref (ad 0), .int (iI pz1)] : List Value).toArray 3 from by rw [hav], lg_entry_eq]
  generalize (lg_sl ([.ref (ad 0), .int (iI pz1)]) ++ List.replicate (3 - (lg_sl ([.ref (ad 0), .int (iI pz1)])).length) Slot.unset).toArray = ls at hl ⊢
  have hl : lv_has ls 3 [(0, .ref (ad 0)), (1, .int (iI pz1))] := hl
  unfold s_X7_findKeyword at hs
  refine (?_ : ∀ (Hz : Heap) (lz : List Loc), va_P D vwCl (wK cI cZ cJ ad x_work x_rebuilds x_reported x_folding_on x_buffer_length a_buffer_bytes x_keywords_given x_keywords_alive a_keywords_bytes a_keywords_lengths a_keywords_weights a_keywords_lives x_mainSet_count a_mainSet_members x_removalSet_count a_removalSet_members x_superstring_slots x_superstring_built b_superstring_sw a_superstring_starts a_superstring_lengths a_superstring_overlaps x_superstring_area_length a_superstring_area_bytes x_superstring_spare_length a_superstring_spare_bytes x_stream_length a_stream_bytes a_matches_words x_reports_size a_reports_positions a_reports_numbers x_chosen_size a_chosen_positions a_chosen_numbers a_depths a_bestFrom) Hz → va_D Az (wK cI cZ cJ ad x_work x_rebuilds x_reported x_folding_on x_buffer_length a_buffer_bytes x_keywords_given x_keywords_alive a_keywords_bytes a_keywords_lengths a_keywords_weights a_keywords_lives x_mainSet_count a_mainSet_members x_removalSet_count a_removalSet_members x_superstring_slots x_superstring_built b_superstring_sw a_superstring_starts a_superstring_lengths a_superstring_overlaps x_superstring_area_length a_superstring_area_bytes x_superstring_spare_length a_superstring_spare_bytes x_stream_length a_stream_bytes a_matches_words x_reports_size a_reports_positions a_reports_numbers x_chosen_size a_chosen_positions a_chosen_numbers a_depths a_bestFrom) → va_S Az s.heap Hz lz → W p l e (headSpec wsX7_findKeyword rm_X7_findKeyword).room s m args below meth c Hz lz 0 0 (MQ below (QW D vwCl (some (.int (iI r))) wz Az) args s 0 0 Az) (F0 m 0 ls [])) s.heap [] hP hD hSz
  intro Hz lz hP hD hSz
  refine lv_aload_n hx hb dX7_findKeyword_0 rfl (lv_at hl 0 rfl) ?_
  refine lv_iload_n hx hb dX7_findKeyword_1 rfl (lv_at hl 1 rfl) ?_
  obtain ⟨vz1, hcz, hs⟩ := bd1_some hs
  refine k_rV (As := [.int (iI pz1)]) (rest := []) (st1 := [.int (iI vz1)]) ⟨hx, hb, hml, hown, hts⟩ hK hP (c_X7_isBufferPart l D cI cZ cJ hcz) (cwV 1 hts gX7_findKeyword_X7_isBufferPart rfl rfl rfl (by decide +kernel) ⟨Nat.le_of_ble_eq_true rfl, Nat.le_of_ble_eq_true rfl⟩) 0 rfl rfl rfl rfl hl.1 rfl (lv_room (Nat.le_of_ble_eq_true rfl)) dX7_findKeyword_2 ⟨Nat.zero_le _, Nat.zero_le _⟩ rfl ?_
  refine k_if_ne (tgt := 11) hx hb hs dX7_findKeyword_5 (by decide) (fun hs => ?_) (fun hs => ?_)
  · refine k_bipush (n := (-3)) hx hb (by decide) dX7_findKeyword_8 ?_
    cases hs
    exact k_iret_w hx hb hr hlk (by rw [hw1]; exact hP) hSz dX7_findKeyword_10 rfl
  · refine lv_aload_n hx hb dX7_findKeyword_11 rfl (lv_at hl 0 rfl) ?_
    refine va_get (ci := 7) (v := .ref (ad 4)) (C := RX7) (T := TX7) (N := 15) hx hb hts hiX7 hown hK hP 0 rfl rfl 2 (by decide) hf30 (fun _ h9 => h9) rfl dX7_findKeyword_12 ?_
    refine lv_aload_n hx hb dX7_findKeyword_15 rfl (lv_at hl 0 rfl) ?_
    refine va_get (ci := 7) (v := .ref (ad 2)) (C := RX7) (T := TX7) (N := 15) hx hb hts hiX7 hown hK hP 0 rfl rfl 1 (by decide) hf21 (fun _ h9 => h9) rfl dX7_findKeyword_16 ?_
    refine lv_iload_n hx hb dX7_findKeyword_19 rfl (lv_at hl 1 rfl) ?_
    obtain ⟨vz2, hcz, hs⟩ := bd1_some hs
    have hPc : va_P D vwCl [((ad 4), .inr (3, [.ref (ad 1), .ref (ad 5), .ref (ad 6), .ref (ad 7), .ref (ad 8), .int (iI x_keywords_given), .int (iI x_keywords_alive)])), ((ad 1), .inr (2, [.int (iI x_folding_on)])), ((ad 5), .inl (cI, 1920, .inl (mI a_keywords_bytes))), ((ad 6), .inl (cI, 120, .inl (mI a_keywords_lengths))), ((ad 7), .inl (cI, 120, .inl (mI a_keywords_weights))), ((ad 8), .inl (cZ, 120, .inl (mI a_keywords_lives))), ((ad 2), .inr (1, [.ref (ad 3), .int (iI x_buffer_length)])), ((ad 3), .inl (cI, 200, .inl (mI a_buffer_bytes)))] Hz := hP.sub [4, 1, 5, 6, 7, 8, 2, 3] rfl
    refine k_rV (As := [.ref (ad 2), .int (iI pz1)]) (rest := []) (st1 := [.int (iI vz2)]) ⟨hx, hb, hml, hown, hts⟩ hK hPc (c_X3_findAlive l D cI cZ cJ (Nat.le_of_ble_eq_true rfl) hcz) (cwV 2 hts gX7_findKeyword_X3_findAlive rfl rfl rfl (by decide +kernel) ⟨Nat.le_of_ble_eq_true rfl, Nat.le_of_ble_eq_true rfl⟩) 0 rfl rfl rfl rfl hl.1 rfl (lv_room (Nat.le_of_ble_eq_true rfl)) dX7_findKeyword_20 ⟨Nat.zero_le _, Nat.zero_le _⟩ rfl ?_
    refine lv_istore_n (lv' := [(2, .int (iI vz2)), (0, .ref (ad 0)), (1, .int (iI pz1))]) hx hb dX7_findKeyword_23 rfl hl (by decide) rfl (fun ls hl => ?_)
    refine lv_aload_n hx hb dX7_findKeyword_24 rfl (lv_at hl 1 rfl) ?_
    refine va_get (ci := 7) (v := .ref (ad 2)) (C := RX7) (T := TX7) (N := 15) hx hb hts hiX7 hown hK hP 0 rfl rfl 1 (by decide) hf21 (fun _ h9 => h9) rfl dX7_findKeyword_25 ?_
    obtain ⟨vz3, hcz, hs⟩ := bd1_some hs
    refine k_wV (As := []) (rest := []) (st1 := []) (wc := [((ad 2), .inr (1, [.ref (ad 3), .int (iI x_buffer_length)])), ((ad 3), .inl (cI, 200, .inl (mI a_buffer_bytes)))]) (w1 := [((ad 2), .inr (1, [.ref (ad 3), .int (iI vz3)])), ((ad 3), .inl (cI, 200, .inl (mI a_buffer_bytes)))]) ⟨hx, hb, hml, hown, hts⟩ hK hP hD hSz hA [2, 3] rfl (by decide) (c_X1_clear l D cI cZ cJ (Nat.le_of_ble_eq_true rfl) hcz) (cwV 0 hts gX7_findKeyword_X1_clear rfl rfl rfl (by decide +kernel) ⟨Nat.le_of_ble_eq_true rfl, Nat.le_of_ble_eq_true rfl⟩) 2 rfl rfl rfl rfl rfl hl.1 rfl (lv_room (Nat.le_of_ble_eq_true rfl)) dX7_findKeyword_28 ⟨Nat.zero_le _, Nat.zero_le _⟩ rfl (fun Hz lz hP hD hSz => ?_)
    have hP : va_P D vwCl (wK cI cZ cJ ad x_work x_rebuilds x_reported x_folding_on vz3 a_buffer_bytes x_keywords_given x_keywords_alive a_keywords_bytes a_keywords_lengths a_keywords_weights a_keywords_lives x_mainSet_count a_mainSet_members x_removalSet_count a_removalSet_members x_superstring_slots x_superstring_built b_superstring_sw a_superstring_starts a_superstring_lengths a_superstring_overlaps x_superstring_area_length a_superstring_area_bytes x_superstring_spare_length a_superstring_spare_bytes x_stream_length a_stream_bytes a_matches_words x_reports_size a_reports_positions a_reports_numbers x_chosen_size a_chosen_positions a_chosen_numbers a_depths a_bestFrom) Hz := hP
    have hD : va_D Az (wK cI cZ cJ ad x_work x_rebuilds x_reported x_folding_on vz3 a_buffer_bytes x_keywords_given x_keywords_alive a_keywords_bytes a_keywords_lengths a_keywords_weights a_keywords_lives x_mainSet_count a_mainSet_members x_removalSet_count a_removalSet_members x_superstring_slots x_superstring_built b_superstring_sw a_superstring_starts a_superstring_lengths a_superstring_overlaps x_superstring_area_length a_superstring_area_bytes x_superstring_spare_length a_superstring_spare_bytes x_stream_length a_stream_bytes a_matches_words x_reports_size a_reports_positions a_reports_numbers x_chosen_size a_chosen_positions a_chosen_numbers a_depths a_bestFrom) := hD
    refine lv_iload_n hx hb dX7_findKeyword_31 rfl (lv_at hl 0 rfl) ?_
    cases hs
    exact k_iret_w hx hb hr hlk (by rw [hw1]; exact hP) hSz dX7_findKeyword_32 rfl
/-! X7_keywordLength -/
set_option maxHeartbeats 4000000 in
set_option maxRecDepth 100000 in
theorem c_X7_keywordLength (l : Launch) (D : va_G) (cI cZ cJ : ClassId) {ad : Nat → Nat} {x_work : Int} {x_rebuilds : Int} {x_reported : Int} {x_folding_on : Int} {x_buffer_length : Int} {a_buffer_bytes : (Int → Int)} {x_keywords_given : Int} {x_keywords_alive : Int} {a_keywords_bytes : (Int → Int)} {a_keywords_lengths : (Int → Int)} {a_keywords_weights : (Int → Int)} {a_keywords_lives : (Int → Int)} {x_mainSet_count : Int} {a_mainSet_members : (Int → Int)} {x_removalSet_count : Int} {a_removalSet_members : (Int → Int)} {x_superstring_slots : Int} {x_superstring_built : Int} {b_superstring_sw : Bool} {a_superstring_starts : (Int → Int)} {a_superstring_lengths : (Int → Int)} {a_superstring_overlaps : (Int → Int)} {x_superstring_area_length : Int} {a_superstring_area_bytes : (Int → Int)} {x_superstring_spare_length : Int} {a_superstring_spare_bytes : (Int → Int)} {x_stream_length : Int} {a_stream_bytes : (Int → Int)} {a_matches_words : (Int → Int)} {x_reports_size : Int} {a_reports_positions : (Int → Int)} {a_reports_numbers : (Int → Int)} {x_chosen_size : Int} {a_chosen_positions : (Int → Int)} {a_chosen_numbers : (Int → Int)} {a_depths : (Int → Int)} {a_bestFrom : (Int → Int)} {pz1 : Int} {r : Int} (hs : s_X7_keywordLength x_keywords_given a_keywords_lengths pz1 = some r) : Met l yX7_keywordLength wsX7_keywordLength rm_X7_keywordLength (PR D vwCl [(cI, .int), (cZ, .boolean), (cJ, .long)] [.ref (ad 0), .int (iI pz1)] (wK cI cZ cJ ad x_work x_rebuilds x_reported x_folding_on x_buffer_length a_buffer_bytes x_keywords_given x_keywords_alive a_keywords_bytes a_keywords_lengths a_keywords_weights a_keywords_lives x_mainSet_count a_mainSet_members x_removalSet_count a_removalSet_members x_superstring_slots x_superstring_built b_superstring_sw a_superstring_starts a_superstring_lengths a_superstring_overlaps x_superstring_area_length a_superstring_area_bytes x_superstring_spare_length a_superstring_spare_bytes x_stream_length a_stream_bytes a_matches_words x_reports_size a_reports_positions a_reports_numbers x_chosen_size a_chosen_positions a_chosen_numbers a_depths a_bestFrom)) (QR (some (.int (iI r)))) 0 0 (fun _ => False) := by
  refine Met.ofW (cc := cX7_keywordLength) (maxL := 2) (ret := (some .int)) (by decide) rfl ?_
  intro p e s m args below meth c s₁ B hml hv
  obtain ⟨hav, hP, hK⟩ := hv
  have hx := B.exec
  have hb := B.bytes
  have hr := B.returns
  have hts := atoms_spec (ws := wsX7_keywordLength) B.pre
  have hown : s.vm.findClass RX7 = some m.cls := findClass_of_methodNamed B.named
  have hlk := B.notSynchronized
  have hf30 : (Cond.fieldLink RX7 30 "KeywordMatcher" "keywords" "LKeywordMatcher$Keywords;").before args s = true := hts _ (List.mem_of_getElem? (i := 1) rfl)
  have hiX7 : ∀ w ∈ wsX70, w ∈ wsX7_keywordLength := fun w h => List.mem_cons_of_mem _ (List.mem_append_left _ (List.mem_append_right _ h))
  have hl := lv_entry ([.ref (ad 0), .int (iI pz1)]) (n := 2) (Nat.le_of_ble_eq_true rfl)
  rw [show entryFrame m args 2 = entryFrame m ([.ref (ad 0), .int (iI pz1)] : List Value).toArray 2 from by rw [hav], lg_entry_eq]
  generalize (lg_sl ([.ref (ad 0), .int (iI pz1)]) ++ List.replicate (2 - (lg_sl ([.ref (ad 0), .int (iI pz1)])).length) Slot.unset).toArray = ls at hl ⊢
  have hl : lv_has ls 2 [(0, .ref (ad 0)), (1, .int (iI pz1))] := hl
  unfold s_X7_keywordLength at hs
  refine lv_aload_n hx hb dX7_keywordLength_0 rfl (lv_at hl 0 rfl) ?_
  refine va_get (ci := 7) (v := .ref (ad 4)) (C := RX7) (T := TX7) (N := 15) hx hb hts hiX7 hown hK hP 0 rfl rfl 2 (by decide) hf30 (fun _ h9 => h9) rfl dX7_keywordLength_1 ?_
  refine lv_iload_n hx hb dX7_keywordLength_4 rfl (lv_at hl 1 rfl) ?_
  obtain ⟨vz1, hcz, hs⟩ := bd1_some hs
  have hPc : va_P D vwCl [((ad 4), .inr (3, [.ref (ad 1), .ref (ad 5), .ref (ad 6), .ref (ad 7), .ref (ad 8), .int (iI x_keywords_given), .int (iI x_keywords_alive)])), ((ad 1), .inr (2, [.int (iI x_folding_on)])), ((ad 5), .inl (cI, 1920, .inl (mI a_keywords_bytes))), ((ad 6), .inl (cI, 120, .inl (mI a_keywords_lengths))), ((ad 7), .inl (cI, 120, .inl (mI a_keywords_weights))), ((ad 8), .inl (cZ, 120, .inl (mI a_keywords_lives)))] s.heap := hP.sub [4, 1, 5, 6, 7, 8] rfl
  refine k_rV (As := [.int (iI pz1)]) (rest := []) (st1 := [.int (iI vz1)]) ⟨hx, hb, hml, hown, hts⟩ hK hPc (c_X3_isGiven l D cI cZ cJ hcz) (cwV 1 hts gX7_keywordLength_X3_isGiven rfl rfl rfl (by decide +kernel) ⟨Nat.le_of_ble_eq_true rfl, Nat.le_of_ble_eq_true rfl⟩) 0 rfl rfl rfl rfl hl.1 rfl (lv_room (Nat.le_of_ble_eq_true rfl)) dX7_keywordLength_5 ⟨Nat.zero_le _, Nat.zero_le _⟩ rfl ?_
  refine k_if_eq (tgt := 22) hx hb hs dX7_keywordLength_8 (by decide) (fun hs => ?_) (fun hs => ?_)
  · refine k_bipush (n := (-2)) hx hb (by decide) dX7_keywordLength_22 ?_
    cases hs
    exact k_iret_r hx hb hr hlk rfl dX7_keywordLength_24 rfl
  · refine lv_aload_n hx hb dX7_keywordLength_11 rfl (lv_at hl 0 rfl) ?_
    refine va_get (ci := 7) (v := .ref (ad 4)) (C := RX7) (T := TX7) (N := 15) hx hb hts hiX7 hown hK hP 0 rfl rfl 2 (by decide) hf30 (fun _ h9 => h9) rfl dX7_keywordLength_12 ?_
    refine lv_iload_n hx hb dX7_keywordLength_15 rfl (lv_at hl 1 rfl) ?_
    obtain ⟨vz2, hcz, hs⟩ := bd1_some hs
    have hPc : va_P D vwCl [((ad 4), .inr (3, [.ref (ad 1), .ref (ad 5), .ref (ad 6), .ref (ad 7), .ref (ad 8), .int (iI x_keywords_given), .int (iI x_keywords_alive)])), ((ad 1), .inr (2, [.int (iI x_folding_on)])), ((ad 5), .inl (cI, 1920, .inl (mI a_keywords_bytes))), ((ad 6), .inl (cI, 120, .inl (mI a_keywords_lengths))), ((ad 7), .inl (cI, 120, .inl (mI a_keywords_weights))), ((ad 8), .inl (cZ, 120, .inl (mI a_keywords_lives)))] s.heap := hP.sub [4, 1, 5, 6, 7, 8] rfl
    refine k_rV (As := [.int (iI pz1)]) (rest := []) (st1 := [.int (iI vz2)]) ⟨hx, hb, hml, hown, hts⟩ hK hPc (c_X3_lengthOf l D cI cZ cJ hcz) (cwV 1 hts gX7_keywordLength_X3_lengthOf rfl rfl rfl (by decide +kernel) ⟨Nat.le_of_ble_eq_true rfl, Nat.le_of_ble_eq_true rfl⟩) 0 rfl rfl rfl rfl hl.1 rfl (lv_room (Nat.le_of_ble_eq_true rfl)) dX7_keywordLength_16 ⟨Nat.zero_le _, Nat.zero_le _⟩ rfl ?_
    refine lv_goto (tgt := 24) hx hb dX7_keywordLength_19 (by decide) ?_
    cases hs
    exact k_iret_r hx hb hr hlk rfl dX7_keywordLength_24 rfl
/-! X7_keywordByte -/
set_option maxHeartbeats 4000000 in
set_option maxRecDepth 100000 in
theorem c_X7_keywordByte (l : Launch) (D : va_G) (cI cZ cJ : ClassId) {ad : Nat → Nat} {x_work : Int} {x_rebuilds : Int} {x_reported : Int} {x_folding_on : Int} {x_buffer_length : Int} {a_buffer_bytes : (Int → Int)} {x_keywords_given : Int} {x_keywords_alive : Int} {a_keywords_bytes : (Int → Int)} {a_keywords_lengths : (Int → Int)} {a_keywords_weights : (Int → Int)} {a_keywords_lives : (Int → Int)} {x_mainSet_count : Int} {a_mainSet_members : (Int → Int)} {x_removalSet_count : Int} {a_removalSet_members : (Int → Int)} {x_superstring_slots : Int} {x_superstring_built : Int} {b_superstring_sw : Bool} {a_superstring_starts : (Int → Int)} {a_superstring_lengths : (Int → Int)} {a_superstring_overlaps : (Int → Int)} {x_superstring_area_length : Int} {a_superstring_area_bytes : (Int → Int)} {x_superstring_spare_length : Int} {a_superstring_spare_bytes : (Int → Int)} {x_stream_length : Int} {a_stream_bytes : (Int → Int)} {a_matches_words : (Int → Int)} {x_reports_size : Int} {a_reports_positions : (Int → Int)} {a_reports_numbers : (Int → Int)} {x_chosen_size : Int} {a_chosen_positions : (Int → Int)} {a_chosen_numbers : (Int → Int)} {a_depths : (Int → Int)} {a_bestFrom : (Int → Int)} {pz1 : Int} {pz2 : Int} {r : Int} (hs : s_X7_keywordByte x_keywords_given a_keywords_bytes a_keywords_lengths pz1 pz2 = some r) : Met l yX7_keywordByte wsX7_keywordByte rm_X7_keywordByte (PR D vwCl [(cI, .int), (cZ, .boolean), (cJ, .long)] [.ref (ad 0), .int (iI pz1), .int (iI pz2)] (wK cI cZ cJ ad x_work x_rebuilds x_reported x_folding_on x_buffer_length a_buffer_bytes x_keywords_given x_keywords_alive a_keywords_bytes a_keywords_lengths a_keywords_weights a_keywords_lives x_mainSet_count a_mainSet_members x_removalSet_count a_removalSet_members x_superstring_slots x_superstring_built b_superstring_sw a_superstring_starts a_superstring_lengths a_superstring_overlaps x_superstring_area_length a_superstring_area_bytes x_superstring_spare_length a_superstring_spare_bytes x_stream_length a_stream_bytes a_matches_words x_reports_size a_reports_positions a_reports_numbers x_chosen_size a_chosen_positions a_chosen_numbers a_depths a_bestFrom)) (QR (some (.int (iI r)))) 0 0 (fun _ => False) := by
  refine Met.ofW (cc := cX7_keywordByte) (maxL := 3) (ret := (some .int)) (by decide) rfl ?_
  intro p e s m args below meth c s₁ B hml hv
  obtain ⟨hav, hP, hK⟩ := hv
  have hx := B.exec
  have hb := B.bytes
  have hr := B.returns
  have hts := atoms_spec (ws := wsX7_keywordByte) B.pre
  have hown : s.vm.findClass RX7 = some m.cls := findClass_of_methodNamed B.named
  have hlk := B.notSynchronized
  have hf30 : (Cond.fieldLink RX7 30 "KeywordMatcher" "keywords" "LKeywordMatcher$Keywords;").before args s = true := hts _ (List.mem_of_getElem? (i := 1) rfl)
  have hiX7 : ∀ w ∈ wsX70, w ∈ wsX7_keywordByte := fun w h => List.mem_cons_of_mem _ (List.mem_append_left _ (List.mem_append_right _ h))
  have hl := lv_entry ([.ref (ad 0), .int (iI pz1), .int (iI pz2)]) (n := 3) (Nat.le_of_ble_eq_true rfl)
  rw [show entryFrame m args 3 = entryFrame m ([.ref (ad 0), .int (iI pz1), .int (iI pz2)] : List Value).toArray 3 from by rw [hav], lg_entry_eq]
  generalize (lg_sl ([.ref (ad 0), .int (iI pz1), .int (iI pz2)]) ++ List.replicate (3 - (lg_sl ([.ref (ad 0), .int (iI pz1), .int (iI pz2)])).length) Slot.unset).toArray = ls at hl ⊢
  have hl : lv_has ls 3 [(0, .ref (ad 0)), (1, .int (iI pz1)), (2, .int (iI pz2))] := hl
  unfold s_X7_keywordByte at hs
  refine lv_aload_n hx hb dX7_keywordByte_0 rfl (lv_at hl 0 rfl) ?_
  refine va_get (ci := 7) (v := .ref (ad 4)) (C := RX7) (T := TX7) (N := 15) hx hb hts hiX7 hown hK hP 0 rfl rfl 2 (by decide) hf30 (fun _ h9 => h9) rfl dX7_keywordByte_1 ?_
  refine lv_iload_n hx hb dX7_keywordByte_4 rfl (lv_at hl 1 rfl) ?_
  obtain ⟨vz1, hcz, hs⟩ := bd1_some hs
  have hPc : va_P D vwCl [((ad 4), .inr (3, [.ref (ad 1), .ref (ad 5), .ref (ad 6), .ref (ad 7), .ref (ad 8), .int (iI x_keywords_given), .int (iI x_keywords_alive)])), ((ad 1), .inr (2, [.int (iI x_folding_on)])), ((ad 5), .inl (cI, 1920, .inl (mI a_keywords_bytes))), ((ad 6), .inl (cI, 120, .inl (mI a_keywords_lengths))), ((ad 7), .inl (cI, 120, .inl (mI a_keywords_weights))), ((ad 8), .inl (cZ, 120, .inl (mI a_keywords_lives)))] s.heap := hP.sub [4, 1, 5, 6, 7, 8] rfl
  refine k_rV (As := [.int (iI pz1)]) (rest := []) (st1 := [.int (iI vz1)]) ⟨hx, hb, hml, hown, hts⟩ hK hPc (c_X3_isGiven l D cI cZ cJ hcz) (cwV 1 hts gX7_keywordByte_X3_isGiven rfl rfl rfl (by decide +kernel) ⟨Nat.le_of_ble_eq_true rfl, Nat.le_of_ble_eq_true rfl⟩) 0 rfl rfl rfl rfl hl.1 rfl (lv_room (Nat.le_of_ble_eq_true rfl)) dX7_keywordByte_5 ⟨Nat.zero_le _, Nat.zero_le _⟩ rfl ?_
  refine k_if_ne (tgt := 14) hx hb hs dX7_keywordByte_8 (by decide) (fun hs => ?_) (fun hs => ?_)
  · refine k_bipush (n := (-2)) hx hb (by decide) dX7_keywordByte_11 ?_
    cases hs
    exact k_iret_r hx hb hr hlk rfl dX7_keywordByte_13 rfl
  · refine lv_iload_n hx hb dX7_keywordByte_14 rfl (lv_at hl 2 rfl) ?_
    refine k_if_ge (tgt := 23) hx hb hs dX7_keywordByte_15 (by decide) (fun hs => ?_) (fun hs => ?_)
    · refine k_bipush (n := (-3)) hx hb (by decide) dX7_keywordByte_18 ?_
      refine lv_goto (tgt := 32) hx hb dX7_keywordByte_20 (by decide) ?_
      cases hs
      exact k_iret_r hx hb hr hlk rfl dX7_keywordByte_32 rfl
    · refine lv_aload_n hx hb dX7_keywordByte_23 rfl (lv_at hl 0 rfl) ?_
      refine va_get (ci := 7) (v := .ref (ad 4)) (C := RX7) (T := TX7) (N := 15) hx hb hts hiX7 hown hK hP 0 rfl rfl 2 (by decide) hf30 (fun _ h9 => h9) rfl dX7_keywordByte_24 ?_
      refine lv_iload_n hx hb dX7_keywordByte_27 rfl (lv_at hl 1 rfl) ?_
      refine lv_iload_n hx hb dX7_keywordByte_28 rfl (lv_at hl 2 rfl) ?_
      obtain ⟨vz2, hcz, hs⟩ := bd1_some hs
      have hPc : va_P D vwCl [((ad 4), .inr (3, [.ref (ad 1), .ref (ad 5), .ref (ad 6), .ref (ad 7), .ref (ad 8), .int (iI x_keywords_given), .int (iI x_keywords_alive)])), ((ad 1), .inr (2, [.int (iI x_folding_on)])), ((ad 5), .inl (cI, 1920, .inl (mI a_keywords_bytes))), ((ad 6), .inl (cI, 120, .inl (mI a_keywords_lengths))), ((ad 7), .inl (cI, 120, .inl (mI a_keywords_weights))), ((ad 8), .inl (cZ, 120, .inl (mI a_keywords_lives)))] s.heap := hP.sub [4, 1, 5, 6, 7, 8] rfl
      refine k_rV (As := [.int (iI pz1), .int (iI pz2)]) (rest := []) (st1 := [.int (iI vz2)]) ⟨hx, hb, hml, hown, hts⟩ hK hPc (c_X3_byteOf l D cI cZ cJ hcz) (cwV 2 hts gX7_keywordByte_X3_byteOf rfl rfl rfl (by decide +kernel) ⟨Nat.le_of_ble_eq_true rfl, Nat.le_of_ble_eq_true rfl⟩) 0 rfl rfl rfl rfl hl.1 rfl (lv_room (Nat.le_of_ble_eq_true rfl)) dX7_keywordByte_29 ⟨Nat.zero_le _, Nat.zero_le _⟩ rfl ?_
      cases hs
      exact k_iret_r hx hb hr hlk rfl dX7_keywordByte_32 rfl
/-! X7_keywordWeight -/
set_option maxHeartbeats 4000000 in
set_option maxRecDepth 100000 in
theorem c_X7_keywordWeight (l : Launch) (D : va_G) (cI cZ cJ : ClassId) {ad : Nat → Nat} {x_work : Int} {x_rebuilds : Int} {x_reported : Int} {x_folding_on : Int} {x_buffer_length : Int} {a_buffer_bytes : (Int → Int)} {x_keywords_given : Int} {x_keywords_alive : Int} {a_keywords_bytes : (Int → Int)} {a_keywords_lengths : (Int → Int)} {a_keywords_weights : (Int → Int)} {a_keywords_lives : (Int → Int)} {x_mainSet_count : Int} {a_mainSet_members : (Int → Int)} {x_removalSet_count : Int} {a_removalSet_members : (Int → Int)} {x_superstring_slots : Int} {x_superstring_built : Int} {b_superstring_sw : Bool} {a_superstring_starts : (Int → Int)} {a_superstring_lengths : (Int → Int)} {a_superstring_overlaps : (Int → Int)} {x_superstring_area_length : Int} {a_superstring_area_bytes : (Int → Int)} {x_superstring_spare_length : Int} {a_superstring_spare_bytes : (Int → Int)} {x_stream_length : Int} {a_stream_bytes : (Int → Int)} {a_matches_words : (Int → Int)} {x_reports_size : Int} {a_reports_positions : (Int → Int)} {a_reports_numbers : (Int → Int)} {x_chosen_size : Int} {a_chosen_positions : (Int → Int)} {a_chosen_numbers : (Int → Int)} {a_depths : (Int → Int)} {a_bestFrom : (Int → Int)} {pz1 : Int} {r : Int} (hs : s_X7_keywordWeight x_keywords_given a_keywords_weights pz1 = some r) : Met l yX7_keywordWeight wsX7_keywordWeight rm_X7_keywordWeight (PR D vwCl [(cI, .int), (cZ, .boolean), (cJ, .long)] [.ref (ad 0), .int (iI pz1)] (wK cI cZ cJ ad x_work x_rebuilds x_reported x_folding_on x_buffer_length a_buffer_bytes x_keywords_given x_keywords_alive a_keywords_bytes a_keywords_lengths a_keywords_weights a_keywords_lives x_mainSet_count a_mainSet_members x_removalSet_count a_removalSet_members x_superstring_slots x_superstring_built b_superstring_sw a_superstring_starts a_superstring_lengths a_superstring_overlaps x_superstring_area_length a_superstring_area_bytes x_superstring_spare_length a_superstring_spare_bytes x_stream_length a_stream_bytes a_matches_words x_reports_size a_reports_positions a_reports_numbers x_chosen_size a_chosen_positions a_chosen_numbers a_depths a_bestFrom)) (QR (some (.int (iI r)))) 0 0 (fun _ => False) := by
  refine Met.ofW (cc := cX7_keywordWeight) (maxL := 2) (ret := (some .int)) (by decide) rfl ?_
  intro p e s m args below meth c s₁ B hml hv
  obtain ⟨hav, hP, hK⟩ := hv
  have hx := B.exec
  have hb := B.bytes
  have hr := B.returns
  have hts := atoms_spec (ws := wsX7_keywordWeight) B.pre
  have hown : s.vm.findClass RX7 = some m.cls := findClass_of_methodNamed B.named
  have hlk := B.notSynchronized
  have hf30 : (Cond.fieldLink RX7 30 "KeywordMatcher" "keywords" "LKeywordMatcher$Keywords;").before args s = true := hts _ (List.mem_of_getElem? (i := 1) rfl)
  have hiX7 : ∀ w ∈ wsX70, w ∈ wsX7_keywordWeight := fun w h => List.mem_cons_of_mem _ (List.mem_append_left _ (List.mem_append_right _ h))
  have hl := lv_entry ([.ref (ad 0), .int (iI pz1)]) (n := 2) (Nat.le_of_ble_eq_true rfl)
  rw [show entryFrame m args 2 = entryFrame m ([.ref (ad 0), .int (iI pz1)] : List Value).toArray 2 from by rw [hav], lg_entry_eq]
  generalize (lg_sl ([.ref (ad 0), .int (iI pz1)]) ++ List.replicate (2 - (lg_sl ([.ref (ad 0), .int (iI pz1)])).length) Slot.unset).toArray = ls at hl ⊢
  have hl : lv_has ls 2 [(0, .ref (ad 0)), (1, .int (iI pz1))] := hl
  unfold s_X7_keywordWeight at hs
  refine lv_aload_n hx hb dX7_keywordWeight_0 rfl (lv_at hl 0 rfl) ?_
  refine va_get (ci := 7) (v := .ref (ad 4)) (C := RX7) (T := TX7) (N := 15) hx hb hts hiX7 hown hK hP 0 rfl rfl 2 (by decide) hf30 (fun _ h9 => h9) rfl dX7_keywordWeight_1 ?_
  refine lv_iload_n hx hb dX7_keywordWeight_4 rfl (lv_at hl 1 rfl) ?_
  obtain ⟨vz1, hcz, hs⟩ := bd1_some hs
  have hPc : va_P D vwCl [((ad 4), .inr (3, [.ref (ad 1), .ref (ad 5), .ref (ad 6), .ref (ad 7), .ref (ad 8), .int (iI x_keywords_given), .int (iI x_keywords_alive)])), ((ad 1), .inr (2, [.int (iI x_folding_on)])), ((ad 5), .inl (cI, 1920, .inl (mI a_keywords_bytes))), ((ad 6), .inl (cI, 120, .inl (mI a_keywords_lengths))), ((ad 7), .inl (cI, 120, .inl (mI a_keywords_weights))), ((ad 8), .inl (cZ, 120, .inl (mI a_keywords_lives)))] s.heap := hP.sub [4, 1, 5, 6, 7, 8] rfl
  refine k_rV (As := [.int (iI pz1)]) (rest := []) (st1 := [.int (iI vz1)]) ⟨hx, hb, hml, hown, hts⟩ hK hPc (c_X3_isGiven l D cI cZ cJ hcz) (cwV 1 hts gX7_keywordWeight_X3_isGiven rfl rfl rfl (by decide +kernel) ⟨Nat.le_of_ble_eq_true rfl, Nat.le_of_ble_eq_true rfl⟩) 0 rfl rfl rfl rfl hl.1 rfl (lv_room (Nat.le_of_ble_eq_true rfl)) dX7_keywordWeight_5 ⟨Nat.zero_le _, Nat.zero_le _⟩ rfl ?_
  refine k_if_eq (tgt := 22) hx hb hs dX7_keywordWeight_8 (by decide) (fun hs => ?_) (fun hs => ?_)
  · refine k_bipush (n := (-2)) hx hb (by decide) dX7_keywordWeight_22 ?_
    cases hs
    exact k_iret_r hx hb hr hlk rfl dX7_keywordWeight_24 rfl
  · refine lv_aload_n hx hb dX7_keywordWeight_11 rfl (lv_at hl 0 rfl) ?_
    refine va_get (ci := 7) (v := .ref (ad 4)) (C := RX7) (T := TX7) (N := 15) hx hb hts hiX7 hown hK hP 0 rfl rfl 2 (by decide) hf30 (fun _ h9 => h9) rfl dX7_keywordWeight_12 ?_
    refine lv_iload_n hx hb dX7_keywordWeight_15 rfl (lv_at hl 1 rfl) ?_
    obtain ⟨vz2, hcz, hs⟩ := bd1_some hs
    have hPc : va_P D vwCl [((ad 4), .inr (3, [.ref (ad 1), .ref (ad 5), .ref (ad 6), .ref (ad 7), .ref (ad 8), .int (iI x_keywords_given), .int (iI x_keywords_alive)])), ((ad 1), .inr (2, [.int (iI x_folding_on)])), ((ad 5), .inl (cI, 1920, .inl (mI a_keywords_bytes))), ((ad 6), .inl (cI, 120, .inl (mI a_keywords_lengths))), ((ad 7), .inl (cI, 120, .inl (mI a_keywords_weights))), ((ad 8), .inl (cZ, 120, .inl (mI a_keywords_lives)))] s.heap := hP.sub [4, 1, 5, 6, 7, 8] rfl
    refine k_rV (As := [.int (iI pz1)]) (rest := []) (st1 := [.int (iI vz2)]) ⟨hx, hb, hml, hown, hts⟩ hK hPc (c_X3_weightOf l D cI cZ cJ hcz) (cwV 1 hts gX7_keywordWeight_X3_weightOf rfl rfl rfl (by decide +kernel) ⟨Nat.le_of_ble_eq_true rfl, Nat.le_of_ble_eq_true rfl⟩) 0 rfl rfl rfl rfl hl.1 rfl (lv_room (Nat.le_of_ble_eq_true rfl)) dX7_keywordWeight_16 ⟨Nat.zero_le _, Nat.zero_le _⟩ rfl ?_
    refine lv_goto (tgt := 24) hx hb dX7_keywordWeight_19 (by decide) ?_
    cases hs
    exact k_iret_r hx hb hr hlk rfl dX7_keywordWeight_24 rfl
/-! X7_isLive -/
set_option maxHeartbeats 4000000 in
set_option maxRecDepth 100000 in
theorem c_X7_isLive (l : Launch) (D : va_G) (cI cZ cJ : ClassId) {ad : Nat → Nat} {x_work : Int} {x_rebuilds : Int} {x_reported : Int} {x_folding_on : Int} {x_buffer_length : Int} {a_buffer_bytes : (Int → Int)} {x_keywords_given : Int} {x_keywords_alive : Int} {a_keywords_bytes : (Int → Int)} {a_keywords_lengths : (Int → Int)} {a_keywords_weights : (Int → Int)} {a_keywords_lives : (Int → Int)} {x_mainSet_count : Int} {a_mainSet_members : (Int → Int)} {x_removalSet_count : Int} {a_removalSet_members : (Int → Int)} {x_superstring_slots : Int} {x_superstring_built : Int} {b_superstring_sw : Bool} {a_superstring_starts : (Int → Int)} {a_superstring_lengths : (Int → Int)} {a_superstring_overlaps : (Int → Int)} {x_superstring_area_length : Int} {a_superstring_area_bytes : (Int → Int)} {x_superstring_spare_length : Int} {a_superstring_spare_bytes : (Int → Int)} {x_stream_length : Int} {a_stream_bytes : (Int → Int)} {a_matches_words : (Int → Int)} {x_reports_size : Int} {a_reports_positions : (Int → Int)} {a_reports_numbers : (Int → Int)} {x_chosen_size : Int} {a_chosen_positions : (Int → Int)} {a_chosen_numbers : (Int → Int)} {a_depths : (Int → Int)} {a_bestFrom : (Int → Int)} {pz1 : Int} {r : Int} (hs : s_X7_isLive x_keywords_given a_keywords_lives pz1 = some r) : Met l yX7_isLive wsX7_isLive rm_X7_isLive (PR D vwCl [(cI, .int), (cZ, .boolean), (cJ, .long)] [.ref (ad 0), .int (iI pz1)] (wK cI cZ cJ ad x_work x_rebuilds x_reported x_folding_on x_buffer_length a_buffer_bytes x_keywords_given x_keywords_alive a_keywords_bytes a_keywords_lengths a_keywords_weights a_keywords_lives x_mainSet_count a_mainSet_members x_removalSet_count a_removalSet_members x_superstring_slots x_superstring_built b_superstring_sw a_superstring_starts a_superstring_lengths a_superstring_overlaps x_superstring_area_length a_superstring_area_bytes x_superstring_spare_length a_superstring_spare_bytes x_stream_length a_stream_bytes a_matches_words x_reports_size a_reports_positions a_reports_numbers x_chosen_size a_chosen_positions a_chosen_numbers a_depths a_bestFrom)) (QR (some (.int (iI r)))) 0 0 (fun _ => False) := by
  refine Met.ofW (cc := cX7_isLive) (maxL := 2) (ret := (some .int)) (by decide) rfl ?_
  intro p e s m args below meth c s₁ B hml hv
  obtain ⟨hav, hP, hK⟩ := hv
  have hx := B.exec
  have hb := B.bytes
  have hr := B.returns
  have hts := atoms_spec (ws := wsX7_isLive) B.pre
  have hown : s.vm.findClass RX7 = some m.cls := findClass_of_methodNamed B.named
  have hlk := B.notSynchronized
  have hf30 : (Cond.fieldLink RX7 30 "KeywordMatcher" "keywords" "LKeywordMatcher$Keywords;").before args s = true := hts _ (List.mem_of_getElem? (i := 1) rfl)
  have hiX7 : ∀ w ∈ wsX70, w ∈ wsX7_isLive := fun w h => List.mem_cons_of_mem _ (List.mem_append_left _ (List.mem_append_right _ h))
  have hl := lv_entry ([.ref (ad 0), .int (iI pz1)]) (n := 2) (Nat.le_of_ble_eq_true rfl)
  rw [show entryFrame m args 2 = entryFrame m ([.ref (ad 0), .int (iI pz1)] : List Value).toArray 2 from by rw [hav], lg_entry_eq]
  generalize (lg_sl ([.ref (ad 0), .int (iI pz1)]) ++ List.replicate (2 - (lg_sl ([.ref (ad 0), .int (iI pz1)])).length) Slot.unset).toArray = ls at hl ⊢
  have hl : lv_has ls 2 [(0, .ref (ad 0)), (1, .int (iI pz1))] := hl
  unfold s_X7_isLive at hs
  refine lv_aload_n hx hb dX7_isLive_0 rfl (lv_at hl 0 rfl) ?_
  refine va_get (ci := 7) (v := .ref (ad 4)) (C := RX7) (T := TX7) (N := 15) hx hb hts hiX7 hown hK hP 0 rfl rfl 2 (by decide) hf30 (fun _ h9 => h9) rfl dX7_isLive_1 ?_
  refine lv_iload_n hx hb dX7_isLive_4 rfl (lv_at hl 1 rfl) ?_
  obtain ⟨vz1, hcz, hs⟩ := bd1_some hs
  have hPc : va_P D vwCl [((ad 4), .inr (3, [.ref (ad 1), .ref (ad 5), .ref (ad 6), .ref (ad 7), .ref (ad 8), .int (iI x_keywords_given), .int (iI x_keywords_alive)])), ((ad 1), .inr (2, [.int (iI x_folding_on)])), ((ad 5), .inl (cI, 1920, .inl (mI a_keywords_bytes))), ((ad 6), .inl (cI, 120, .inl (mI a_keywords_lengths))), ((ad 7), .inl (cI, 120, .inl (mI a_keywords_weights))), ((ad 8), .inl (cZ, 120, .inl (mI a_keywords_lives)))] s.heap := hP.sub [4, 1, 5, 6, 7, 8] rfl
  refine k_rV (As := [.int (iI pz1)]) (rest := []) (st1 := [.int (iI vz1)]) ⟨hx, hb, hml, hown, hts⟩ hK hPc (c_X3_isGiven l D cI cZ cJ hcz) (cwV 1 hts gX7_isLive_X3_isGiven rfl rfl rfl (by decide +kernel) ⟨Nat.le_of_ble_eq_true rfl, Nat.le_of_ble_eq_true rfl⟩) 0 rfl rfl rfl rfl hl.1 rfl (lv_room (Nat.le_of_ble_eq_true rfl)) dX7_isLive_5 ⟨Nat.zero_le _, Nat.zero_le _⟩ rfl ?_
  refine k_if_ne (tgt := 14) hx hb hs dX7_isLive_8 (by decide) (fun hs => ?_) (fun hs => ?_)
  · refine k_bipush (n := (-2)) hx hb (by decide) dX7_isLive_11 ?_
    cases hs
    exact k_iret_r hx hb hr hlk rfl dX7_isLive_13 rfl
  · refine lv_aload_n hx hb dX7_isLive_14 rfl (lv_at hl 0 rfl) ?_
    refine va_get (ci := 7) (v := .ref (ad 4)) (C := RX7) (T := TX7) (N := 15) hx hb hts hiX7 hown hK hP 0 rfl rfl 2 (by decide) hf30 (fun _ h9 => h9) rfl dX7_isLive_15 ?_
    refine lv_iload_n hx hb dX7_isLive_18 rfl (lv_at hl 1 rfl) ?_
    obtain ⟨vz2, hcz, hs⟩ := bd1_some hs
    have hPc : va_P D vwCl [((ad 4), .inr (3, [.ref (ad 1), .ref (ad 5), .ref (ad 6), .ref (ad 7), .ref (ad 8), .int (iI x_keywords_given), .int (iI x_keywords_alive)])), ((ad 1), .inr (2, [.int (iI x_folding_on)])), ((ad 5), .inl (cI, 1920, .inl (mI a_keywords_bytes))), ((ad 6), .inl (cI, 120, .inl (mI a_keywords_lengths))), ((ad 7), .inl (cI, 120, .inl (mI a_keywords_weights))), ((ad 8), .inl (cZ, 120, .inl (mI a_keywords_lives)))] s.heap := hP.sub [4, 1, 5, 6, 7, 8] rfl
    refine k_rV (As := [.int (iI pz1)]) (rest := []) (st1 := [.int (iI vz2)]) ⟨hx, hb, hml, hown, hts⟩ hK hPc (c_X3_isAlive l D cI cZ cJ hcz) (cwV 1 hts gX7_isLive_X3_isAlive rfl rfl rfl (by decide +kernel) ⟨Nat.le_of_ble_eq_true rfl, Nat.le_of_ble_eq_true rfl⟩) 0 rfl rfl rfl rfl hl.1 rfl (lv_room (Nat.le_of_ble_eq_true rfl)) dX7_isLive_19 ⟨Nat.zero_le _, Nat.zero_le _⟩ rfl ?_
    refine k_if_eq (tgt := 29) hx hb hs dX7_isLive_22 (by decide) (fun hs => ?_) (fun hs => ?_)
    · refine k_iconst (n := 0) hx hb dX7_isLive_29 ?_
      cases hs
      exact k_iret_r hx hb hr hlk rfl dX7_isLive_30 rfl
    · refine k_iconst (n := 1) hx hb dX7_isLive_25 ?_
      refine lv_goto (tgt := 30) hx hb dX7_isLive_26 (by decide) ?_
      cases hs
      exact k_iret_r hx hb hr hlk rfl dX7_isLive_30 rfl
/-! X7_liveCount -/
set_option maxHeartbeats 4000000 in
set_option maxRecDepth 100000 in
theorem c_X7_liveCount (l : Launch) (D : va_G) (cI cZ cJ : ClassId) {ad : Nat → Nat} {x_work : Int} {x_rebuilds : Int} {x_reported : Int} {x_folding_on : Int} {x_buffer_length : Int} {a_buffer_bytes : (Int → Int)} {x_keywords_given : Int} {x_keywords_alive : Int} {a_keywords_bytes : (Int → Int)} {a_keywords_lengths : (Int → Int)} {a_keywords_weights : (Int → Int)} {a_keywords_lives : (Int → Int)} {x_mainSet_count : Int} {a_mainSet_members : (Int → Int)} {x_removalSet_count : Int} {a_removalSet_members : (Int → Int)} {x_superstring_slots : Int} {x_superstring_built : Int} {b_superstring_sw : Bool} {a_superstring_starts : (Int → Int)} {a_superstring_lengths : (Int → Int)} {a_superstring_overlaps : (Int → Int)} {x_superstring_area_length : Int} {a_superstring_area_bytes : (Int → Int)} {x_superstring_spare_length : Int} {a_superstring_spare_bytes : (Int → Int)} {x_stream_length : Int} {a_stream_bytes : (Int → Int)} {a_matches_words : (Int → Int)} {x_reports_size : Int} {a_reports_positions : (Int → Int)} {a_reports_numbers : (Int → Int)} {x_chosen_size : Int} {a_chosen_positions : (Int → Int)} {a_chosen_numbers : (Int → Int)} {a_depths : (Int → Int)} {a_bestFrom : (Int → Int)} {r : Int} (hs : s_X7_liveCount x_keywords_alive = some r) : Met l yX7_liveCount wsX7_liveCount rm_X7_liveCount (PR D vwCl [(cI, .int), (cZ, .boolean), (cJ, .long)] [.ref (ad 0)] (wK cI cZ cJ ad x_work x_rebuilds x_reported x_folding_on x_buffer_length a_buffer_bytes x_keywords_given x_keywords_alive a_keywords_bytes a_keywords_lengths a_keywords_weights a_keywords_lives x_mainSet_count a_mainSet_members x_removalSet_count a_removalSet_members x_superstring_slots x_superstring_built b_superstring_sw a_superstring_starts a_superstring_lengths a_superstring_overlaps x_superstring_area_length a_superstring_area_bytes x_superstring_spare_length a_superstring_spare_bytes x_stream_length a_stream_bytes a_matches_words x_reports_size a_reports_positions a_reports_numbers x_chosen_size a_chosen_positions a_chosen_numbers a_depths a_bestFrom)) (QR (some (.int (iI r)))) 0 0 (fun _ => False) := by
  refine Met.ofW (cc := cX7_liveCount) (maxL := 1) (ret := (some .int)) (by decide) rfl ?_
  intro p e s m args below meth c s₁ B hml hv
  obtain ⟨hav, hP, hK⟩ := hv
  have hx := B.exec
  have hb := B.bytes
  have hr := B.returns
  have hts := atoms_spec (ws := wsX7_liveCount) B.pre
  have hown : s.vm.findClass RX7 = some m.cls := findClass_of_methodNamed B.named
  have hlk := B.notSynchronized
  have hf30 : (Cond.fieldLink RX7 30 "KeywordMatcher" "keywords" "LKeywordMatcher$Keywords;").before args s = true := hts _ (List.mem_of_getElem? (i := 1) rfl)
  have hiX7 : ∀ w ∈ wsX70, w ∈ wsX7_liveCount := fun w h => List.mem_cons_of_mem _ (List.mem_append_left _ (List.mem_append_right _ h))
  have hf129 : (Cond.fieldLink RX7 129 "KeywordMatcher$Keywords" "alive" "I").before args s = true := hts _ (List.mem_of_getElem? (i := 2) rfl)
  have hiX3 : ∀ w ∈ wsX30, w ∈ wsX7_liveCount := fun w h => List.mem_cons_of_mem _ (List.mem_append_right _ h)
  have hl := lv_entry ([.ref (ad 0)]) (n := 1) (Nat.le_of_ble_eq_true rfl)
  rw [show entryFrame m args 1 = entryFrame m ([.ref (ad 0)] : List Value).toArray 1 from by rw [hav], lg_entry_eq]
  generalize (lg_sl ([.ref (ad 0)]) ++ List.replicate (1 - (lg_sl ([.ref (ad 0)])).length) Slot.unset).toArray = ls at hl ⊢
  have hl : lv_has ls 1 [(0, .ref (ad 0))] := hl
  unfold s_X7_liveCount at hs
  refine lv_aload_n hx hb dX7_liveCount_0 rfl (lv_at hl 0 rfl) ?_
  refine va_get (ci := 7) (v := .ref (ad 4)) (C := RX7) (T := TX7) (N := 15) hx hb hts hiX7 hown hK hP 0 rfl rfl 2 (by decide) hf30 (fun _ h9 => h9) rfl dX7_liveCount_1 ?_
  refine va_get (ci := 3) (v := .int (iI x_keywords_alive)) (C := RX3) (T := TX3) (N := 7) hx hb hts hiX3 hown hK hP 4 rfl rfl 6 (by decide) hf129 (fun _ h9 => h9) rfl dX7_liveCount_4 ?_
  cases hs
  exact k_iret_r hx hb hr hlk rfl dX7_liveCount_7 rfl
/-! X7_setFolding -/
set_option maxHeartbeats 4000000 in
set_option maxRecDepth 100000 in
theorem c_X7_setFolding (l : Launch) (D : va_G) (cI cZ cJ : ClassId) {ad : Nat → Nat} {x_work : Int} {x_rebuilds : Int} {x_reported : Int} {x_folding_on : Int} {x_buffer_length : Int} {a_buffer_bytes : (Int → Int)} {x_keywords_given : Int} {x_keywords_alive : Int} {a_keywords_bytes : (Int → Int)} {a_keywords_lengths : (Int → Int)} {a_keywords_weights : (Int → Int)} {a_keywords_lives : (Int → Int)} {x_mainSet_count : Int} {a_mainSet_members : (Int → Int)} {x_removalSet_count : Int} {a_removalSet_members : (Int → Int)} {x_superstring_slots : Int} {x_superstring_built : Int} {b_superstring_sw : Bool} {a_superstring_starts : (Int → Int)} {a_superstring_lengths : (Int → Int)} {a_superstring_overlaps : (Int → Int)} {x_superstring_area_length : Int} {a_superstring_area_bytes : (Int → Int)} {x_superstring_spare_length : Int} {a_superstring_spare_bytes : (Int → Int)} {x_stream_length : Int} {a_stream_bytes : (Int → Int)} {a_matches_words : (Int → Int)} {x_reports_size : Int} {a_reports_positions : (Int → Int)} {a_reports_numbers : (Int → Int)} {x_chosen_size : Int} {a_chosen_positions : (Int → Int)} {a_chosen_numbers : (Int → Int)} {a_depths : (Int → Int)} {a_bestFrom : (Int → Int)} {pz1 : Int} {r : Int} {y_x_folding_on : Int} {sz : Nat} (h_p1 : pz1 = 0 ∨ pz1 = 1) (hs : s_X7_setFolding x_folding_on x_keywords_alive x_stream_length pz1 = some (r, y_x_folding_on)) : Met l yX7_setFolding wsX7_setFolding rm_X7_setFolding (PW D vwCl [(cI, .int), (cZ, .boolean), (cJ, .long)] [.ref (ad 0), .int (iI pz1)] (wK cI cZ cJ ad x_work x_rebuilds x_reported x_folding_on x_buffer_length a_buffer_bytes x_keywords_given x_keywords_alive a_keywords_bytes a_keywords_lengths a_keywords_weights a_keywords_lives x_mainSet_count a_mainSet_members x_removalSet_count a_removalSet_members x_superstring_slots x_superstring_built b_superstring_sw a_superstring_starts a_superstring_lengths a_superstring_overlaps x_superstring_area_length a_superstring_area_bytes x_superstring_spare_length a_superstring_spare_bytes x_stream_length a_stream_bytes a_matches_words x_reports_size a_reports_positions a_reports_numbers x_chosen_size a_chosen_positions a_chosen_numbers a_depths a_bestFrom) sz) (QW D vwCl (some (.int (iI r))) (wK cI cZ cJ ad x_work x_rebuilds x_reported y_x_folding_on x_buffer_length a_buffer_bytes x_keywords_given x_keywords_alive a_keywords_bytes a_keywords_lengths a_keywords_weights a_keywords_lives x_mainSet_count a_mainSet_members x_removalSet_count a_removalSet_members x_superstring_slots x_superstring_built b_superstring_sw a_superstring_starts a_superstring_lengths a_superstring_overlaps x_superstring_area_length a_superstring_area_bytes x_superstring_spare_length a_superstring_spare_bytes x_stream_length a_stream_bytes a_matches_words x_reports_size a_reports_positions a_reports_numbers x_chosen_size a_chosen_positions a_chosen_numbers a_depths a_bestFrom) (va_A (wK cI cZ cJ ad x_work x_rebuilds x_reported x_folding_on x_buffer_length a_buffer_bytes x_keywords_given x_keywords_alive a_keywords_bytes a_keywords_lengths a_keywords_weights a_keywords_lives x_mainSet_count a_mainSet_members x_removalSet_count a_removalSet_members x_superstring_slots x_superstring_built b_superstring_sw a_superstring_starts a_superstring_lengths a_superstring_overlaps x_superstring_area_length a_superstring_area_bytes x_superstring_spare_length a_superstring_spare_bytes x_stream_length a_stream_bytes a_matches_words x_reports_size a_reports_positions a_reports_numbers x_chosen_size a_chosen_positions a_chosen_numbers a_depths a_bestFrom) sz)) 0 0 (va_A (wK cI cZ cJ ad x_work x_rebuilds x_reported x_folding_on x_buffer_length a_buffer_bytes x_keywords_given x_keywords_alive a_keywords_bytes a_keywords_lengths a_keywords_weights a_keywords_lives x_mainSet_count a_mainSet_members x_removalSet_count a_removalSet_members x_superstring_slots x_superstring_built b_superstring_sw a_superstring_starts a_superstring_lengths a_superstring_overlaps x_superstring_area_length a_superstring_area_bytes x_superstring_spare_length a_superstring_spare_bytes x_stream_length a_stream_bytes a_matches_words x_reports_size a_reports_positions a_reports_numbers x_chosen_size a_chosen_positions a_chosen_numbers a_depths a_bestFrom) sz) := by
  refine Met.ofW (cc := cX7_setFolding) (maxL := 3) (ret := (some .int)) (by decide) rfl ?_
  intro p e s m args below meth c s₁ B hml hv
  obtain ⟨hav, hsz, hP, hK, hD0⟩ := hv
  have hx := B.exec
  have hb := B.bytes
  have hr := B.returns
  have hts := atoms_spec (ws := wsX7_setFolding) B.pre
  have hown : s.vm.findClass RX7 = some m.cls := findClass_of_methodNamed B.named
  have hlk := B.notSynchronized
  have hf30 : (Cond.fieldLink RX7 30 "KeywordMatcher" "keywords" "LKeywordMatcher$Keywords;").before args s = true := hts _ (List.mem_of_getElem? (i := 1) rfl)
  have hiX7 : ∀ w ∈ wsX70, w ∈ wsX7_setFolding := fun w h => List.mem_cons_of_mem _ (List.mem_append_left _ (List.mem_append_left _ (List.mem_append_left _ (List.mem_append_right _ h))))
  have hf129 : (Cond.fieldLink RX7 129 "KeywordMatcher$Keywords" "alive" "I").before args s = true := hts _ (List.mem_of_getElem? (i := 2) rfl)
  have hiX3 : ∀ w ∈ wsX30, w ∈ wsX7_setFolding := fun w h => List.mem_cons_of_mem _ (List.mem_append_left _ (List.mem_append_left _ (List.mem_append_right _ h)))
  have hf51 : (Cond.fieldLink RX7 51 "KeywordMatcher" "stream" "LKeywordMatcher$ByteRow;").before args s = true := hts _ (List.mem_of_getElem? (i := 3) rfl)
  have hf89 : (Cond.fieldLink RX7 89 "KeywordMatcher$ByteRow" "length" "I").before args s = true := hts _ (List.mem_of_getElem? (i := 4) rfl)
  have hiX1 : ∀ w ∈ wsX10, w ∈ wsX7_setFolding := fun w h => List.mem_cons_of_mem _ (List.mem_append_left _ (List.mem_append_right _ h))
  have hf12 : (Cond.fieldLink RX7 12 "KeywordMatcher" "folding" "LKeywordMatcher$Folding;").before args s = true := hts _ (List.mem_of_getElem? (i := 5) rfl)
  have hf167 : (Cond.fieldLink RX7 167 "KeywordMatcher$Folding" "on" "Z").before args s = true := hts _ (List.mem_of_getElem? (i := 6) rfl)
  have hiX2 : ∀ w ∈ wsX20, w ∈ wsX7_setFolding := fun w h => List.mem_cons_of_mem _ (List.mem_append_right _ h)
  subst hsz
  have hD := hD0.self (sz := s.heap.size)
  generalize hAe : va_A (wK cI cZ cJ ad x_work x_rebuilds x_reported x_folding_on x_buffer_length a_buffer_bytes x_keywords_given x_keywords_alive a_keywords_bytes a_keywords_lengths a_keywords_weights a_keywords_lives x_mainSet_count a_mainSet_members x_removalSet_count a_removalSet_members x_superstring_slots x_superstring_built b_superstring_sw a_superstring_starts a_superstring_lengths a_superstring_overlaps x_superstring_area_length a_superstring_area_bytes x_superstring_spare_length a_superstring_spare_bytes x_stream_length a_stream_bytes a_matches_words x_reports_size a_reports_positions a_reports_numbers x_chosen_size a_chosen_positions a_chosen_numbers a_depths a_bestFrom) s.heap.size = Az at hD ⊢
  have hA : ∀ q : Nat, s.heap.size ≤ q → Az q := fun q h => by rw [← hAe]; exact Or.inr h
  clear hAe
  have hSz : va_S Az s.heap s.heap [] := va_S.rf
  obtain ⟨wz, hw1⟩ : ∃ z : va_W, z = (wK cI cZ cJ ad x_work x_rebuilds x_reported y_x_folding_on x_buffer_length a_buffer_bytes x_keywords_given x_keywords_alive a_keywords_bytes a_keywords_lengths a_keywords_weights a_keywords_lives x_mainSet_count a_mainSet_members x_removalSet_count a_removalSet_members x_superstring_slots x_superstring_built b_superstring_sw a_superstring_starts a_superstring_lengths a_superstring_overlaps x_superstring_area_length a_superstring_area_bytes x_superstring_spare_length a_superstring_spare_bytes x_stream_length a_stream_bytes a_matches_words x_reports_size a_reports_positions a_reports_numbers x_chosen_size a_chosen_positions a_chosen_numbers a_depths a_bestFrom) := ⟨_, rfl⟩
  rw [← hw1]
  have hl := lv_entry ([.ref (ad 0), .int (iI pz1)]) (n := 3) (Nat.le_of_ble_eq_true rfl)
  rw [show entryFrame m args 3 = entryFrame m ([.ref (ad 0), .int (iI pz1)] : List Value).toArray 3 from by rw [hav], lg_entry_eq]
  generalize (lg_sl ([.ref (ad 0), .int (iI pz1)]) ++ List.replicate (3 - (lg_sl ([.ref (ad 0), .int (iI pz1)])).length) Slot.unset).toArray = ls at hl ⊢
  have hl : lv_has ls 3 [(0, .ref (ad 0)), (1, .int (iI pz1))] := hl
  unfold s_X7_setFolding at hs
  refine (?_ : ∀ (Hz : Heap) (lz : List Loc), va_P D vwCl (wK cI cZ cJ ad x_work x_rebuilds x_reported x_folding_on x_buffer_length a_buffer_bytes x_keywords_given x_keywords_alive a_keywords_bytes a_keywords_lengths a_keywords_weights a_keywords_lives x_mainSet_count a_mainSet_members x_removalSet_count a_removalSet_members x_superstring_slots x_superstring_built b_superstring_sw a_superstring_starts a_superstring_lengths a_superstring_overlaps x_superstring_area_length a_superstring_area_bytes x_superstring_spare_length a_superstring_spare_bytes x_stream_length a_stream_bytes a_matches_words x_reports_size a_reports_positions a_reports_numbers x_chosen_size a_chosen_positions a_chosen_numbers a_depths a_bestFrom) Hz → va_D Az (wK cI cZ cJ ad x_work x_rebuilds x_reported x_folding_on x_buffer_length a_buffer_bytes x_keywords_given x_keywords_alive a_keywords_bytes a_keywords_lengths a_keywords_weights a_keywords_lives x_mainSet_count a_mainSet_members x_removalSet_count a_removalSet_members x_superstring_slots x_superstring_built b_superstring_sw a_superstring_starts a_superstring_lengths a_superstring_overlaps x_superstring_area_length a_superstring_area_bytes x_superstring_spare_length a_superstring_spare_bytes x_stream_length a_stream_bytes a_matches_words x_reports_size a_reports_positions a_reports_numbers x_chosen_size a_chosen_positions a_chosen_numbers a_depths a_bestFrom) → va_S Az s.heap Hz lz → W p l e (headSpec wsX7_setFolding rm_X7_setFolding).room s m args below meth c Hz lz 0 0 (MQ below (QW D vwCl (some (.int (iI r))) wz Az) args s 0 0 Az) (F0 m 0 ls [])) s.heap [] hP hD hSz
  intro Hz lz hP hD hSz
  refine lv_aload_n hx hb dX7_setFolding_0 rfl (lv_at hl 0 rfl) ?_
  refine va_get (ci := 7) (v := .ref (ad 4)) (C := RX7) (T := TX7) (N := 15) hx hb hts hiX7 hown hK hP 0 rfl rfl 2 (by decide) hf30 (fun _ h9 => h9) rfl dX7_setFolding_1 ?_
  refine va_get (ci := 3) (v := .int (iI x_keywords_alive)) (C := RX3) (T := TX3) (N := 7) hx hb hts hiX3 hown hK hP 4 rfl rfl 6 (by decide) hf129 (fun _ h9 => h9) rfl dX7_setFolding_4 ?_
  refine k_if_gt (tgt := 20) hx hb hs dX7_setFolding_7 (by decide) (fun hs => ?_) (fun hs => ?_)
  · refine k_bipush (n := (-7)) hx hb (by decide) dX7_setFolding_20 ?_
    cases hs
    exact k_iret_w hx hb hr hlk (by rw [hw1]; exact hP) hSz dX7_setFolding_22 rfl
  · refine lv_aload_n hx hb dX7_setFolding_10 rfl (lv_at hl 0 rfl) ?_
    refine va_get (ci := 7) (v := .ref (ad 21)) (C := RX7) (T := TX7) (N := 15) hx hb hts hiX7 hown hK hP 0 rfl rfl 6 (by decide) hf51 (fun _ h9 => h9) rfl dX7_setFolding_11 ?_
    refine va_get (ci := 1) (v := .int (iI x_stream_length)) (C := RX1) (T := TX1) (N := 2) hx hb hts hiX1 hown hK hP 21 rfl rfl 1 (by decide) hf89 (fun _ h9 => h9) rfl dX7_setFolding_14 ?_
    refine k_if_le (tgt := 23) hx hb hs dX7_setFolding_17 (by decide) (fun hs => ?_) (fun hs => ?_)
    · refine k_bipush (n := (-7)) hx hb (by decide) dX7_setFolding_20 ?_
      cases hs
      exact k_iret_w hx hb hr hlk (by rw [hw1]; exact hP) hSz dX7_setFolding_22 rfl
    · refine lv_aload_n hx hb dX7_setFolding_23 rfl (lv_at hl 0 rfl) ?_
      refine va_get (ci := 7) (v := .ref (ad 1)) (C := RX7) (T := TX7) (N := 15) hx hb hts hiX7 hown hK hP 0 rfl rfl 0 (by decide) hf12 (fun _ h9 => h9) rfl dX7_setFolding_24 ?_
      refine va_get (ci := 2) (v := .int (iI x_folding_on)) (C := RX2) (T := TX2) (N := 1) hx hb hts hiX2 hown hK hP 1 rfl rfl 0 (by decide) hf167 (fun _ h9 => h9) rfl dX7_setFolding_27 ?_
      refine k_if_eq (tgt := 37) hx hb hs dX7_setFolding_30 (by decide) (fun hs => ?_) (fun hs => ?_)
      · refine k_iconst (n := 0) hx hb dX7_setFolding_37 ?_
        refine lv_istore_n (lv' := [(2, .int (iI 0)), (0, .ref (ad 0)), (1, .int (iI pz1))]) hx hb dX7_setFolding_38 rfl hl (by decide) rfl (fun ls hl => ?_)
        refine lv_aload_n hx hb dX7_setFolding_39 rfl (lv_at hl 1 rfl) ?_
        refine va_get (ci := 7) (v := .ref (ad 1)) (C := RX7) (T := TX7) (N := 15) hx hb hts hiX7 hown hK hP 0 rfl rfl 0 (by decide) hf12 (fun _ h9 => h9) rfl dX7_setFolding_40 ?_
        refine lv_iload_n hx hb dX7_setFolding_43 rfl (lv_at hl 2 rfl) ?_
        refine va_put (ci := 2) (v := .int (iI pz1)) (ty := .boolean) (C := RX2) (T := TX2) (N := 1) hx hb hts hiX2 tyX2 tyX2_ok nmX2 hown hK hP hD hSz 1 rfl rfl 0 (by decide) hf167 (fun _ h9 => h9) rfl (by decide +kernel) (narZ h_p1) (fitsZ h_p1) (Nat.le_of_ble_eq_true rfl) dX7_setFolding_44 (fun Hz lz hP hD hSz => ?_)
        have hP : va_P D vwCl (wK cI cZ cJ ad x_work x_rebuilds x_reported pz1 x_buffer_length a_buffer_bytes x_keywords_given x_keywords_alive a_keywords_bytes a_keywords_lengths a_keywords_weights a_keywords_lives x_mainSet_count a_mainSet_members x_removalSet_count a_removalSet_members x_superstring_slots x_superstring_built b_superstring_sw a_superstring_starts a_superstring_lengths a_superstring_overlaps x_superstring_area_length a_superstring_area_bytes x_superstring_spare_length a_superstring_spare_bytes x_stream_length a_stream_bytes a_matches_words x_reports_size a_reports_positions a_reports_numbers x_chosen_size a_chosen_positions a_chosen_numbers a_depths a_bestFrom) Hz := hP
        have hD : va_D Az (wK cI cZ cJ ad x_work x_rebuilds x_reported pz1 x_buffer_length a_buffer_bytes x_keywords_given x_keywords_alive a_keywords_bytes a_keywords_lengths a_keywords_weights a_keywords_lives x_mainSet_count a_mainSet_members x_removalSet_count a_removalSet_members x_superstring_slots x_superstring_built b_superstring_sw a_superstring_starts a_superstring_lengths a_superstring_overlaps x_superstring_area_length a_superstring_area_bytes x_superstring_spare_length a_superstring_spare_bytes x_stream_length a_stream_bytes a_matches_words x_reports_size a_reports_positions a_reports_numbers x_chosen_size a_chosen_positions a_chosen_numbers a_depths a_bestFrom) := hD
        refine lv_iload_n hx hb dX7_setFolding_47 rfl (lv_at hl 0 rfl) ?_
        cases hs
        exact k_iret_w hx hb hr hlk (by rw [hw1]; exact hP) hSz dX7_setFolding_48 rfl
      · refine k_iconst (n := 1) hx hb dX7_setFolding_33 ?_
        refine lv_goto (tgt := 38) hx hb dX7_setFolding_34 (by decide) ?_
        refine lv_istore_n (lv' := [(2, .int (iI 1)), (0, .ref (ad 0)), (1, .int (iI pz1))]) hx hb dX7_setFolding_38 rfl hl (by decide) rfl (fun ls hl => ?_)
        refine lv_aload_n hx hb dX7_setFolding_39 rfl (lv_at hl 1 rfl) ?_
        refine va_get (ci := 7) (v := .ref (ad 1)) (C := RX7) (T := TX7) (N := 15) hx hb hts hiX7 hown hK hP 0 rfl rfl 0 (by decide) hf12 (fun _ h9 => h9) rfl dX7_setFolding_40 ?_
        refine lv_iload_n hx hb dX7_setFolding_43 rfl (lv_at hl 2 rfl) ?_
        refine va_put (ci := 2) (v := .int (iI pz1)) (ty := .boolean) (C := RX2) (T := TX2) (N := 1) hx hb hts hiX2 tyX2 tyX2_ok nmX2 hown hK hP hD hSz 1 rfl rfl 0 (by decide) hf167 (fun _ h9 => h9) rfl (by decide +kernel) (narZ h_p1) (fitsZ h_p1) (Nat.le_of_ble_eq_true rfl) dX7_setFolding_44 (fun Hz lz hP hD hSz => ?_)
        have hP : va_P D vwCl (wK cI cZ cJ ad x_work x_rebuilds x_reported pz1 x_buffer_length a_buffer_bytes x_keywords_given x_keywords_alive a_keywords_bytes a_keywords_lengths a_keywords_weights a_keywords_lives x_mainSet_count a_mainSet_members x_removalSet_count a_removalSet_members x_superstring_slots x_superstring_built b_superstring_sw a_superstring_starts a_superstring_lengths a_superstring_overlaps x_superstring_area_length a_superstring_area_bytes x_superstring_spare_length a_superstring_spare_bytes x_stream_length a_stream_bytes a_matches_words x_reports_size a_reports_positions a_reports_numbers x_chosen_size a_chosen_positions a_chosen_numbers a_depths a_bestFrom) Hz := hP
        have hD : va_D Az (wK cI cZ cJ ad x_work x_rebuilds x_reported pz1 x_buffer_length a_buffer_bytes x_keywords_given x_keywords_alive a_keywords_bytes a_keywords_lengths a_keywords_weights a_keywords_lives x_mainSet_count a_mainSet_members x_removalSet_count a_removalSet_members x_superstring_slots x_superstring_built b_superstring_sw a_superstring_starts a_superstring_lengths a_superstring_overlaps x_superstring_area_length a_superstring_area_bytes x_superstring_spare_length a_superstring_spare_bytes x_stream_length a_stream_bytes a_matches_words x_reports_size a_reports_positions a_reports_numbers x_chosen_size a_chosen_positions a_chosen_numbers a_depths a_bestFrom) := hD
        refine lv_iload_n hx hb dX7_setFolding_47 rfl (lv_at hl 0 rfl) ?_
        cases hs
        exact k_iret_w hx hb hr hlk (by rw [hw1]; exact hP) hSz dX7_setFolding_48 rfl
/-! X7_isLevel -/
set_option maxHeartbeats 4000000 in
set_option maxRecDepth 100000 in
theorem c_X7_isLevel (l : Launch) (D : va_G) (cI cZ cJ : ClassId) {pz0 : Int} {r : Int} (hs : s_X7_isLevel pz0 = some r) : Met l yX7_isLevel wsX7_isLevel rm_X7_isLevel (PR D vwCl [(cI, .int), (cZ, .boolean), (cJ, .long)] [.int (iI pz0)] []) (QR (some (.int (iI r)))) 0 0 (fun _ => False) := by
  refine Met.ofW (cc := cX7_isLevel) (maxL := 1) (ret := (some .boolean)) (by decide) rfl ?_
  intro p e s m args below meth c s₁ B hml hv
  obtain ⟨hav, hP, hK⟩ := hv
  have hx := B.exec
  have hb := B.bytes
  have hr := B.returns
  have hts := atoms_spec (ws := wsX7_isLevel) B.pre
  have hown : s.vm.findClass RX7 = some m.cls := findClass_of_methodNamed B.named
  have hlk := B.notSynchronized
  have hl := lv_entry ([.int (iI pz0)]) (n := 1) (Nat.le_of_ble_eq_true rfl)
  rw [show entryFrame m args 1 = entryFrame m ([.int (iI pz0)] : List Value).toArray 1 from by rw [hav], lg_entry_eq]
  generalize (lg_sl ([.int (iI pz0)]) ++ List.replicate (1 - (lg_sl ([.int (iI pz0)])).length) Slot.unset).toArray = ls at hl ⊢
  have hl : lv_has ls 1 [(0, .int (iI pz0))] := hl
  unfold s_X7_isLevel at hs
  refine lv_iload_n hx hb dX7_isLevel_0 rfl (lv_at hl 0 rfl) ?_
  refine k_if_lt (tgt := 14) hx hb hs dX7_isLevel_1 (by decide) (fun hs => ?_) (fun hs => ?_)
  · refine k_iconst (n := 0) hx hb dX7_isLevel_14 ?_
    cases hs
    exact k_zret_r hx hb hr hlk rfl (by decide) dX7_isLevel_15 rfl
  · refine lv_iload_n hx hb dX7_isLevel_4 rfl (lv_at hl 0 rfl) ?_
    refine k_bipush (n := 7) hx hb (by decide) dX7_isLevel_5 ?_
    refine k_icmp_ge (tgt := 14) hx hb hs dX7_isLevel_7 (by decide) (fun hs => ?_) (fun hs => ?_)
    · refine k_iconst (n := 1) hx hb dX7_isLevel_10 ?_
      refine lv_goto (tgt := 15) hx hb dX7_isLevel_11 (by decide) ?_
      cases hs
      exact k_zret_r hx hb hr hlk rfl (by decide) dX7_isLevel_15 rfl
    · refine k_iconst (n := 0) hx hb dX7_isLevel_14 ?_
      cases hs
      exact k_zret_r hx hb hr hlk rfl (by decide) dX7_isLevel_15 rfl
/-! X7_mainSize -/
set_option maxHeartbeats 4000000 in
set_option maxRecDepth 100000 in
theorem c_X7_mainSize (l : Launch) (D : va_G) (cI cZ cJ : ClassId) {ad : Nat → Nat} {x_work : Int} {x_rebuilds : Int} {x_reported : Int} {x_folding_on : Int} {x_buffer_length : Int} {a_buffer_bytes : (Int → Int)} {x_keywords_given : Int} {x_keywords_alive : Int} {a_keywords_bytes : (Int → Int)} {a_keywords_lengths : (Int → Int)} {a_keywords_weights : (Int → Int)} {a_keywords_lives : (Int → Int)} {x_mainSet_count : Int} {a_mainSet_members : (Int → Int)} {x_removalSet_count : Int} {a_removalSet_members : (Int → Int)} {x_superstring_slots : Int} {x_superstring_built : Int} {b_superstring_sw : Bool} {a_superstring_starts : (Int → Int)} {a_superstring_lengths : (Int → Int)} {a_superstring_overlaps : (Int → Int)} {x_superstring_area_length : Int} {a_superstring_area_bytes : (Int → Int)} {x_superstring_spare_length : Int} {a_superstring_spare_bytes : (Int → Int)} {x_stream_length : Int} {a_stream_bytes : (Int → Int)} {a_matches_words : (Int → Int)} {x_reports_size : Int} {a_reports_positions : (Int → Int)} {a_reports_numbers : (Int → Int)} {x_chosen_size : Int} {a_chosen_positions : (Int → Int)} {a_chosen_numbers : (Int → Int)} {a_depths : (Int → Int)} {a_bestFrom : (Int → Int)} {pz1 : Int} {r : Int} (hs : s_X7_mainSize x_mainSet_count pz1 = some r) : Met l yX7_mainSize wsX7_mainSize rm_X7_mainSize (PR D vwCl [(cI, .int), (cZ, .boolean), (cJ, .long)] [.ref (ad 0), .int (iI pz1)] (wK cI cZ cJ ad x_work x_rebuilds x_reported x_folding_on x_buffer_length a_buffer_bytes x_keywords_given x_keywords_alive a_keywords_bytes a_keywords_lengths a_keywords_weights a_keywords_lives x_mainSet_count a_mainSet_members x_removalSet_count a_removalSet_members x_superstring_slots x_superstring_built b_superstring_sw a_superstring_starts a_superstring_lengths a_superstring_overlaps x_superstring_area_length a_superstring_area_bytes x_superstring_spare_length a_superstring_spare_bytes x_stream_length a_stream_bytes a_matches_words x_reports_size a_reports_positions a_reports_numbers x_chosen_size a_chosen_positions a_chosen_numbers a_depths a_bestFrom)) (QR (some (.int (iI r)))) 0 0 (fun _ => False) := by
  refine Met.ofW (cc := cX7_mainSize) (maxL := 2) (ret := (some .int)) (by decide) rfl ?_
  intro p e s m args below meth c s₁ B hml hv
  obtain ⟨hav, hP, hK⟩ := hv
  have hx := B.exec
  have hb := B.bytes
  have hr := B.returns
  have hts := atoms_spec (ws := wsX7_mainSize) B.pre
  have hown : s.vm.findClass RX7 = some m.cls := findClass_of_methodNamed B.named
  have hlk := B.notSynchronized
  have hf37 : (Cond.fieldLink RX7 37 "KeywordMatcher" "mainSet" "LKeywordMatcher$BucketSet;").before args s = true := hts _ (List.mem_of_getElem? (i := 1) rfl)
  have hiX7 : ∀ w ∈ wsX70, w ∈ wsX7_mainSize := fun w h => List.mem_cons_of_mem _ (List.mem_append_left _ (List.mem_append_right _ h))
  have hl := lv_entry ([.ref (ad 0), .int (iI pz1)]) (n := 2) (Nat.le_of_ble_eq_true rfl)
  rw [show entryFrame m args 2 = entryFrame m ([.ref (ad 0), .int (iI pz1)] : List Value).toArray 2 from by rw [hav], lg_entry_eq]
  generalize (lg_sl ([.ref (ad 0), .int (iI pz1)]) ++ List.replicate (2 - (lg_sl ([.ref (ad 0), .int (iI pz1)])).length) Slot.unset).toArray = ls at hl ⊢
  have hl : lv_has ls 2 [(0, .ref (ad 0)), (1, .int (iI pz1))] := hl
  unfold s_X7_mainSize at hs
  refine lv_iload_n hx hb dX7_mainSize_0 rfl (lv_at hl 1 rfl) ?_
  obtain ⟨vz1, hcz, hs⟩ := bd1_some hs
  refine k_rS (As := [.int (iI pz1)]) (rest := []) (st1 := [.int (iI vz1)]) ⟨hx, hb, hml, hown, hts⟩ hK (va_P_nil (D := D) (cl := vwCl)) (c_X7_isLevel l D cI cZ cJ hcz) (va_cwS 1 hts gX7_mainSize_X7_isLevel rfl rfl rfl (by decide +kernel) ⟨Nat.le_of_ble_eq_true rfl, Nat.le_of_ble_eq_true rfl⟩) rfl hl.1 rfl (lv_room (Nat.le_of_ble_eq_true rfl)) dX7_mainSize_1 ⟨Nat.zero_le _, Nat.zero_le _⟩ rfl ?_
  refine k_if_eq (tgt := 18) hx hb hs dX7_mainSize_4 (by decide) (fun hs => ?_) (fun hs => ?_)
  · refine k_bipush (n := (-3)) hx hb (by decide) dX7_mainSize_18 ?_
    cases hs
    exact k_iret_r hx hb hr hlk rfl dX7_mainSize_20 rfl
  · refine lv_aload_n hx hb dX7_mainSize_7 rfl (lv_at hl 0 rfl) ?_
    refine va_get (ci := 7) (v := .ref (ad 9)) (C := RX7) (T := TX7) (N := 15) hx hb hts hiX7 hown hK hP 0 rfl rfl 3 (by decide) hf37 (fun _ h9 => h9) rfl dX7_mainSize_8 ?_
    refine lv_iload_n hx hb dX7_mainSize_11 rfl (lv_at hl 1 rfl) ?_
    obtain ⟨vz2, hcz, hs⟩ := bd1_some hs
    have hPc : va_P D vwCl [((ad 9), .inr (0, [.ref (ad 10), .int (iI x_mainSet_count)])), ((ad 10), .inl (cI, 127, .inl (mI a_mainSet_members)))] s.heap := hP.sub [9, 10] rfl
    refine k_rV (As := [.int (iI pz1)]) (rest := []) (st1 := [.int (iI vz2)]) ⟨hx, hb, hml, hown, hts⟩ hK hPc (c_X0_sizeAt l D cI cZ cJ hcz) (cwV 1 hts gX7_mainSize_X0_sizeAt rfl rfl rfl (by decide +kernel) ⟨Nat.le_of_ble_eq_true rfl, Nat.le_of_ble_eq_true rfl⟩) 0 rfl rfl rfl rfl hl.1 rfl (lv_room (Nat.le_of_ble_eq_true rfl)) dX7_mainSize_12 ⟨Nat.zero_le _, Nat.zero_le _⟩ rfl ?_
    refine lv_goto (tgt := 20) hx hb dX7_mainSize_15 (by decide) ?_
    cases hs
    exact k_iret_r hx hb hr hlk rfl dX7_mainSize_20 rfl
/-! X7_removalSize -/
set_option maxHeartbeats 4000000 in
set_option maxRecDepth 100000 in
theorem c_X7_removalSize (l : Launch) (D : va_G) (cI cZ cJ : ClassId) {ad : Nat → Nat} {x_work : Int} {x_rebuilds : Int} {x_reported : Int} {x_folding_on : Int} {x_buffer_length : Int} {a_buffer_bytes : (Int → Int)} {x_keywords_given : Int} {x_keywords_alive : Int} {a_keywords_bytes : (Int → Int)} {a_keywords_lengths : (Int → Int)} {a_keywords_weights : (Int → Int)} {a_keywords_lives : (Int → Int)} {x_mainSet_count : Int} {a_mainSet_members : (Int → Int)} {x_removalSet_count : Int} {a_removalSet_members : (Int → Int)} {x_superstring_slots : Int} {x_superstring_built : Int} {b_superstring_sw : Bool} {a_superstring_starts : (Int → Int)} {a_superstring_lengths : (Int → Int)} {a_superstring_overlaps : (Int → Int)} {x_superstring_area_length : Int} {a_superstring_area_bytes : (Int → Int)} {x_superstring_spare_length : Int} {a_superstring_spare_bytes : (Int → Int)} {x_stream_length : Int} {a_stream_bytes : (Int → Int)} {a_matches_words : (Int → Int)} {x_reports_size : Int} {a_reports_positions : (Int → Int)} {a_reports_numbers : (Int → Int)} {x_chosen_size : Int} {a_chosen_positions : (Int → Int)} {a_chosen_numbers : (Int → Int)} {a_depths : (Int → Int)} {a_bestFrom : (Int → Int)} {pz1 : Int} {r : Int} (hs : s_X7_removalSize x_removalSet_count pz1 = some r) : Met l yX7_removalSize wsX7_removalSize rm_X7_removalSize (PR D vwCl [(cI, .int), (cZ, .boolean), (cJ, .long)] [.ref (ad 0), .int (iI pz1)] (wK cI cZ cJ ad x_work x_rebuilds x_reported x_folding_on x_buffer_length a_buffer_bytes x_keywords_given x_keywords_alive a_keywords_bytes a_keywords_lengths a_keywords_weights a_keywords_lives x_mainSet_count a_mainSet_members x_removalSet_count a_removalSet_members x_superstring_slots x_superstring_built b_superstring_sw a_superstring_starts a_superstring_lengths a_superstring_overlaps x_superstring_area_length a_superstring_area_bytes x_superstring_spare_length a_superstring_spare_bytes x_stream_length a_stream_bytes a_matches_words x_reports_size a_reports_positions a_reports_numbers x_chosen_size a_chosen_positions a_chosen_numbers a_depths a_bestFrom)) (QR (some (.int (iI r)))) 0 0 (fun _ => False) := by
  refine Met.ofW (cc := cX7_removalSize) (maxL := 2) (ret := (some .int)) (by decide) rfl ?_
  intro p e s m args below meth c s₁ B hml hv
  obtain ⟨hav, hP, hK⟩ := hv
  have hx := B.exec
  have hb := B.bytes
  have hr := B.returns
  have hts := atoms_spec (ws := wsX7_removalSize) B.pre
  have hown : s.vm.findClass RX7 = some m.cls := findClass_of_methodNamed B.named
  have hlk := B.notSynchronized
  have hf41 : (Cond.fieldLink RX7 41 "KeywordMatcher" "removalSet" "LKeywordMatcher$BucketSet;").before args s = true := hts _ (List.mem_of_getElem? (i := 1) rfl)
  have hiX7 : ∀ w ∈ wsX70, w ∈ wsX7_removalSize := fun w h => List.mem_cons_of_mem _ (List.mem_append_left _ (List.mem_append_right _ h))
  have hl := lv_entry ([.ref (ad 0), .int (iI pz1)]) (n := 2) (Nat.le_of_ble_eq_true rfl)
  rw [show entryFrame m args 2 = entryFrame m ([.ref (ad 0), .int (iI pz1)] : List Value).toArray 2 from by rw [hav], lg_entry_eq]
  generalize (lg_sl ([.ref (ad 0), .int (iI pz1)]) ++ List.replicate (2 - (lg_sl ([.ref (ad 0), .int (iI pz1)])).length) Slot.unset).toArray = ls at hl ⊢
  have hl : lv_has ls 2 [(0, .ref (ad 0)), (1, .int (iI pz1))] := hl
  unfold s_X7_removalSize at hs
  refine lv_iload_n hx hb dX7_removalSize_0 rfl (lv_at hl 1 rfl) ?_
  obtain ⟨vz1, hcz, hs⟩ := bd1_some hs
  refine k_rS (As := [.int (iI pz1)]) (rest := []) (st1 := [.int (iI vz1)]) ⟨hx, hb, hml, hown, hts⟩ hK (va_P_nil (D := D) (cl := vwCl)) (c_X7_isLevel l D cI cZ cJ hcz) (va_cwS 1 hts gX7_removalSize_X7_isLevel rfl rfl rfl (by decide +kernel) ⟨Nat.le_of_ble_eq_true rfl, Nat.le_of_ble_eq_true rfl⟩) rfl hl.1 rfl (lv_room (Nat.le_of_ble_eq_true rfl)) dX7_removalSize_1 ⟨Nat.zero_le _, Nat.zero_le _⟩ rfl ?_
  refine k_if_eq (tgt := 18) hx hb hs dX7_removalSize_4 (by decide) (fun hs => ?_) (fun hs => ?_)
  · refine k_bipush (n := (-3)) hx hb (by decide) dX7_removalSize_18 ?_
    cases hs
    exact k_iret_r hx hb hr hlk rfl dX7_removalSize_20 rfl
  · refine lv_aload_n hx hb dX7_removalSize_7 rfl (lv_at hl 0 rfl) ?_
    refine va_get (ci := 7) (v := .ref (ad 11)) (C := RX7) (T := TX7) (N := 15) hx hb hts hiX7 hown hK hP 0 rfl rfl 4 (by decide) hf41 (fun _ h9 => h9) rfl dX7_removalSize_8 ?_
    refine lv_iload_n hx hb dX7_removalSize_11 rfl (lv_at hl 1 rfl) ?_
    obtain ⟨vz2, hcz, hs⟩ := bd1_some hs
    have hPc : va_P D vwCl [((ad 11), .inr (0, [.ref (ad 12), .int (iI x_removalSet_count)])), ((ad 12), .inl (cI, 127, .inl (mI a_removalSet_members)))] s.heap := hP.sub [11, 12] rfl
    refine k_rV (As := [.int (iI pz1)]) (rest := []) (st1 := [.int (iI vz2)]) ⟨hx, hb, hml, hown, hts⟩ hK hPc (c_X0_sizeAt l D cI cZ cJ hcz) (cwV 1 hts gX7_removalSize_X0_sizeAt rfl rfl rfl (by decide +kernel) ⟨Nat.le_of_ble_eq_true rfl, Nat.le_of_ble_eq_true rfl⟩) 0 rfl rfl rfl rfl hl.1 rfl (lv_room (Nat.le_of_ble_eq_true rfl)) dX7_removalSize_12 ⟨Nat.zero_le _, Nat.zero_le _⟩ rfl ?_
    refine lv_goto (tgt := 20) hx hb dX7_removalSize_15 (by decide) ?_
    cases hs
    exact k_iret_r hx hb hr hlk rfl dX7_removalSize_20 rfl
/-! X7_newPrefixes -/
set_option maxHeartbeats 4000000 in
set_option maxRecDepth 100000 in
theorem c_X7_newPrefixes (l : Launch) (D : va_G) (cI cZ cJ : ClassId) {ad : Nat → Nat} {x_work : Int} {x_rebuilds : Int} {x_reported : Int} {x_folding_on : Int} {x_buffer_length : Int} {a_buffer_bytes : (Int → Int)} {x_keywords_given : Int} {x_keywords_alive : Int} {a_keywords_bytes : (Int → Int)} {a_keywords_lengths : (Int → Int)} {a_keywords_weights : (Int → Int)} {a_keywords_lives : (Int → Int)} {x_mainSet_count : Int} {a_mainSet_members : (Int → Int)} {x_removalSet_count : Int} {a_removalSet_members : (Int → Int)} {x_superstring_slots : Int} {x_superstring_built : Int} {b_superstring_sw : Bool} {a_superstring_starts : (Int → Int)} {a_superstring_lengths : (Int → Int)} {a_superstring_overlaps : (Int → Int)} {x_superstring_area_length : Int} {a_superstring_area_bytes : (Int → Int)} {x_superstring_spare_length : Int} {a_superstring_spare_bytes : (Int → Int)} {x_stream_length : Int} {a_stream_bytes : (Int → Int)} {a_matches_words : (Int → Int)} {x_reports_size : Int} {a_reports_positions : (Int → Int)} {a_reports_numbers : (Int → Int)} {x_chosen_size : Int} {a_chosen_positions : (Int → Int)} {a_chosen_numbers : (Int → Int)} {a_depths : (Int → Int)} {a_bestFrom : (Int → Int)} {pz1 : Int} {pz2 : Int} {r : Int} (hs : s_X7_newPrefixes x_folding_on x_keywords_given a_keywords_bytes a_keywords_lengths x_mainSet_count a_mainSet_members pz1 pz2 = some r) : Met l yX7_newPrefixes wsX7_newPrefixes rm_X7_newPrefixes (PR D vwCl [(cI, .int), (cZ, .boolean), (cJ, .long)] [.ref (ad 0), .int (iI pz1), .int (iI pz2)] (wK cI cZ cJ ad x_work x_rebuilds x_reported x_folding_on x_buffer_length a_buffer_bytes x_keywords_given x_keywords_alive a_keywords_bytes a_keywords_lengths a_keywords_weights a_keywords_lives x_mainSet_count a_mainSet_members x_removalSet_count a_removalSet_members x_superstring_slots x_superstring_built b_superstring_sw a_superstring_starts a_superstring_lengths a_superstring_overlaps x_superstring_area_length a_superstring_area_bytes x_superstring_spare_length a_superstring_spare_bytes x_stream_length a_stream_bytes a_matches_words x_reports_size a_reports_positions a_reports_numbers x_chosen_size a_chosen_positions a_chosen_numbers a_depths a_bestFrom)) (QR (some (.int (iI r)))) 0 0 (fun _ => False) := by
  refine Met.ofW (cc := cX7_newPrefixes) (maxL := 6) (ret := (some .int)) (by decide) rfl ?_
  intro p e s m args below meth c s₁ B hml hv
  obtain ⟨hav, hP, hK⟩ := hv
  have hx := B.exec
  have hb := B.bytes
  have hr := B.returns
  have hts := atoms_spec (ws := wsX7_newPrefixes) B.pre
  have hown : s.vm.findClass RX7 = some m.cls := findClass_of_methodNamed B.named
  have hlk := B.notSynchronized
  have hf37 : (Cond.fieldLink RX7 37 "KeywordMatcher" "mainSet" "LKeywordMatcher$BucketSet;").before args s = true := hts _ (List.mem_of_getElem? (i := 1) rfl)
  have hiX7 : ∀ w ∈ wsX70, w ∈ wsX7_newPrefixes := fun w h => List.mem_cons_of_mem _ (List.mem_append_left _ (List.mem_append_left _ (List.mem_append_left _ (List.mem_append_right _ h))))
  have hf30 : (Cond.fieldLink RX7 30 "KeywordMatcher" "keywords" "LKeywordMatcher$Keywords;").before args s = true := hts _ (List.mem_of_getElem? (i := 2) rfl)
  have hm189 : (Cond.methodLink RX7 189 Lib.Math.max.name).before args s = true := hts _ (List.mem_of_getElem? (i := 3) rfl)
  have hst_max : (Cond.static Lib.Math.max.name).before args s = true := hts _ (List.mem_of_getElem? (i := 4) rfl)
  have hin_Math : (Cond.initialized "java/lang/Math").before args s = true := hts _ (List.mem_of_getElem? (i := 5) rfl)
  have hcd_max : (Cond.code Lib.Math.max.name Lib.Math.max.code 2 (some .int)).before args s = true := hts _ (List.mem_of_getElem? (i := 6) rfl)
  have hl := lv_entry ([.ref (ad 0), .int (iI pz1), .int (iI pz2)]) (n := 6) (Nat.le_of_ble_eq_true rfl)
  rw [show entryFrame m args 6 = entryFrame m ([.ref (ad 0), .int (iI pz1), .int (iI pz2)] : List Value).toArray 6 from by rw [hav], lg_entry_eq]
  generalize (lg_sl ([.ref (ad 0), .int (iI pz1), .int (iI pz2)]) ++ List.replicate (6 - (lg_sl ([.ref (ad 0), .int (iI pz1), .int (iI pz2)])).length) Slot.unset).toArray = ls at hl ⊢
  have hl : lv_has ls 6 [(0, .ref (ad 0)), (1, .int (iI pz1)), (2, .int (iI pz2))] := hl
  unfold s_X7_newPrefixes at hs
  have Lz15 : ∀ (fu : Nat) (l2 : Int) (l3 : Int) (l4 : Int) (l5 : Int) (y0 : Int), s_X7_newPrefixes_15 fu x_folding_on x_keywords_given a_keywords_bytes a_keywords_lengths x_mainSet_count a_mainSet_members l2 l3 l4 l5 = some y0 → ∀ ls : Array Slot, lv_has ls 6 [(0, .ref (ad 0)), (2, .int (iI l2)), (3, .int (iI l3)), (4, .int (iI l4)), (5, .int (iI l5))] → (∀ ls : Array Slot, lv_has ls 6 [(0, .ref (ad 0)), (3, .int (iI l3)), (4, .int (iI y0))] → W p l e (headSpec wsX7_newPrefixes rm_X7_newPrefixes).room s m args below meth c s.heap [] 0 0 (MQ below (QR (some (.int (iI r)))) args s 0 0 (fun _ => False)) (F0 m 51 ls [])) → W p l e (headSpec wsX7_newPrefixes rm_X7_newPrefixes).room s m args below meth c s.heap [] 0 0 (MQ below (QR (some (.int (iI r)))) args s 0 0 (fun _ => False)) (F0 m 15 ls []) := by
    intro fu
    induction fu with
    | zero => intro l2 l3 l4 l5 y0 hs; cases hs
    | succ fu ih =>
      intro l2 l3 l4 l5 y0 hs ls hl kx
      rw [s_X7_newPrefixes_15_s] at hs
      refine lv_iload hx hb dX7_newPrefixes_15 (lv_at hl 4 rfl) ?_
      refine lv_iload_n hx hb dX7_newPrefixes_17 rfl (lv_at hl 1 rfl) ?_
      refine k_icmp_ge (tgt := 51) hx hb hs dX7_newPrefixes_18 (by decide) (fun hs => ?_) (fun hs => ?_)
      · refine lv_iload hx hb dX7_newPrefixes_21 (lv_at hl 3 rfl) ?_
        refine lv_aload_n hx hb dX7_newPrefixes_23 rfl (lv_at hl 0 rfl) ?_
        refine va_get (ci := 7) (v := .ref (ad 4)) (C := RX7) (T := TX7) (N := 15) hx hb hts hiX7 hown hK hP 0 rfl rfl 2 (by decide) hf30 (fun _ h9 => h9) rfl dX7_newPrefixes_24 ?_
        refine lv_iload_n hx hb dX7_newPrefixes_27 rfl (lv_at hl 2 rfl) ?_
        refine lv_aload_n hx hb dX7_newPrefixes_28 rfl (lv_at hl 0 rfl) ?_
        refine va_get (ci := 7) (v := .ref (ad 9)) (C := RX7) (T := TX7) (N := 15) hx hb hts hiX7 hown hK hP 0 rfl rfl 3 (by decide) hf37 (fun _ h9 => h9) rfl dX7_newPrefixes_29 ?_
        refine lv_iload hx hb dX7_newPrefixes_32 (lv_at hl 4 rfl) ?_
        obtain ⟨vz2, hcz, hs⟩ := bd1_some hs
        have hPc : va_P D vwCl [((ad 9), .inr (0, [.ref (ad 10), .int (iI x_mainSet_count)])), ((ad 10), .inl (cI, 127, .inl (mI a_mainSet_members)))] s.heap := hP.sub [9, 10] rfl
        refine k_rV (As := [.int (iI l5)]) (rest := [.int (iI l3), .ref (ad 4), .int (iI l4)]) (st1 := [.int (iI vz2), .int (iI l3), .ref (ad 4), .int (iI l4)]) ⟨hx, hb, hml, hown, hts⟩ hK hPc (c_X0_memberAt l D cI cZ cJ hcz) (cwV 1 hts gX7_newPrefixes_X0_memberAt rfl rfl rfl (by decide +kernel) ⟨Nat.le_of_ble_eq_true rfl, Nat.le_of_ble_eq_true rfl⟩) 0 rfl rfl rfl rfl hl.1 rfl (lv_room (Nat.le_of_ble_eq_true rfl)) dX7_newPrefixes_34 ⟨Nat.zero_le _, Nat.zero_le _⟩ rfl ?_
        obtain ⟨vz3, hcz, hs⟩ := bd1_some hs
        have hPc : va_P D vwCl [((ad 4), .inr (3, [.ref (ad 1), .ref (ad 5), .ref (ad 6), .ref (ad 7), .ref (ad 8), .int (iI x_keywords_given), .int (iI x_keywords_alive)])), ((ad 1), .inr (2, [.int (iI x_folding_on)])), ((ad 5), .inl (cI, 1920, .inl (mI a_keywords_bytes))), ((ad 6), .inl (cI, 120, .inl (mI a_keywords_lengths))), ((ad 7), .inl (cI, 120, .inl (mI a_keywords_weights))), ((ad 8), .inl (cZ, 120, .inl (mI a_keywords_lives)))] s.heap := hP.sub [4, 1, 5, 6, 7, 8] rfl
        refine k_rV (As := [.int (iI l3), .int (iI vz2)]) (rest := [.int (iI l4)]) (st1 := [.int (iI vz3), .int (iI l4)]) ⟨hx, hb, hml, hown, hts⟩ hK hPc (c_X3_commonPrefix l D cI cZ cJ hcz) (cwV 2 hts gX7_newPrefixes_X3_commonPrefix rfl rfl rfl (by decide +kernel) ⟨Nat.le_of_ble_eq_true rfl, Nat.le_of_ble_eq_true rfl⟩) 0 rfl rfl rfl rfl hl.1 rfl (lv_room (Nat.le_of_ble_eq_true rfl)) dX7_newPrefixes_37 ⟨Nat.zero_le _, Nat.zero_le _⟩ rfl ?_
        refine k_mmax hx hb (hml.trans hl.1.symm) hown hm189 hst_max hin_Math hcd_max (Nat.le_of_ble_eq_true rfl) (Nat.le_of_ble_eq_true rfl) (Nat.zero_le _) (Nat.zero_le _) hs dX7_newPrefixes_40 (fun hs => ?_)
        refine lv_istore (lv' := [(4, .int (iI (iMax l4 vz3))), (0, .ref (ad 0)), (2, .int (iI l2)), (3, .int (iI l3)), (5, .int (iI l5))]) hx hb dX7_newPrefixes_43 hl (by decide) rfl (fun ls hl => ?_)
        refine k_iinc (x := l5) (k := 4) (lv' := [(5, .int (iI (l5 + 1))), (4, .int (iI (iMax l4 vz3))), (0, .ref (ad 0)), (2, .int (iI l2)), (3, .int (iI l3))]) hx hb dX7_newPrefixes_45 hl rfl (by decide) rfl (fun ls hl => ?_)
        refine lv_goto (tgt := 15) hx hb dX7_newPrefixes_48 (by decide) ?_
        exact ih l2 l3 (iMax l4 vz3) (l5 + 1) y0 hs ls (lv_sub hl [2, 3, 4, 1, 0] rfl) kx
      · cases hs
        exact kx ls (lv_sub hl [0, 2, 3] rfl)
  refine lv_aload_n hx hb dX7_newPrefixes_0 rfl (lv_at hl 0 rfl) ?_
  refine va_get (ci := 7) (v := .ref (ad 9)) (C := RX7) (T := TX7) (N := 15) hx hb hts hiX7 hown hK hP 0 rfl rfl 3 (by decide) hf37 (fun _ h9 => h9) rfl dX7_newPrefixes_1 ?_
  refine lv_iload_n hx hb dX7_newPrefixes_4 rfl (lv_at hl 2 rfl) ?_
  obtain ⟨vz1, hcz, hs⟩ := bd1_some hs
  have hPc : va_P D vwCl [((ad 9), .inr (0, [.ref (ad 10), .int (iI x_mainSet_count)])), ((ad 10), .inl (cI, 127, .inl (mI a_mainSet_members)))] s.heap := hP.sub [9, 10] rfl
  refine k_rV (As := [.int (iI pz2)]) (rest := []) (st1 := [.int (iI vz1)]) ⟨hx, hb, hml, hown, hts⟩ hK hPc (c_X0_memberAt l D cI cZ cJ hcz) (cwV 1 hts gX7_newPrefixes_X0_memberAt rfl rfl rfl (by decide +kernel) ⟨Nat.le_of_ble_eq_true rfl, Nat.le_of_ble_eq_true rfl⟩) 0 rfl rfl rfl rfl hl.1 rfl (lv_room (Nat.le_of_ble_eq_true rfl)) dX7_newPrefixes_5 ⟨Nat.zero_le _, Nat.zero_le _⟩ rfl ?_
  refine lv_istore_n (lv' := [(3, .int (iI vz1)), (0, .ref (ad 0)), (1, .int (iI pz1)), (2, .int (iI pz2))]) hx hb dX7_newPrefixes_8 rfl hl (by decide) rfl (fun ls hl => ?_)
  refine k_iconst (n := 0) hx hb dX7_newPrefixes_9 ?_
  refine lv_istore (lv' := [(4, .int (iI 0)), (3, .int (iI vz1)), (0, .ref (ad 0)), (1, .int (iI pz1)), (2, .int (iI pz2))]) hx hb dX7_newPrefixes_10 hl (by decide) rfl (fun ls hl => ?_)
  refine lv_iload_n hx hb dX7_newPrefixes_12 rfl (lv_at hl 3 rfl) ?_
  refine lv_istore (lv' := [(5, .int (iI pz1)), (4, .int (iI 0)), (3, .int (iI vz1)), (0, .ref (ad 0)), (1, .int (iI pz1)), (2, .int (iI pz2))]) hx hb dX7_newPrefixes_13 hl (by decide) rfl (fun ls hl => ?_)
  obtain ⟨ez4, hq, hs⟩ := bd1_some hs
  refine Lz15 FU pz2 vz1 0 pz1 ez4 hq ls (lv_sub hl [3, 5, 2, 1, 0] rfl) ?_
  intro ls hl
  refine lv_aload_n hx hb dX7_newPrefixes_51 rfl (lv_at hl 0 rfl) ?_
  refine va_get (ci := 7) (v := .ref (ad 4)) (C := RX7) (T := TX7) (N := 15) hx hb hts hiX7 hown hK hP 0 rfl rfl 2 (by decide) hf30 (fun _ h9 => h9) rfl dX7_newPrefixes_52 ?_
  refine lv_iload_n hx hb dX7_newPrefixes_55 rfl (lv_at hl 1 rfl) ?_
  obtain ⟨vz5, hcz, hs⟩ := bd1_some hs
  have hPc : va_P D vwCl [((ad 4), .inr (3, [.ref (ad 1), .ref (ad 5), .ref (ad 6), .ref (ad 7), .ref (ad 8), .int (iI x_keywords_given), .int (iI x_keywords_alive)])), ((ad 1), .inr (2, [.int (iI x_folding_on)])), ((ad 5), .inl (cI, 1920, .inl (mI a_keywords_bytes))), ((ad 6), .inl (cI, 120, .inl (mI a_keywords_lengths))), ((ad 7), .inl (cI, 120, .inl (mI a_keywords_weights))), ((ad 8), .inl (cZ, 120, .inl (mI a_keywords_lives)))] s.heap := hP.sub [4, 1, 5, 6, 7, 8] rfl
  refine k_rV (As := [.int (iI vz1)]) (rest := []) (st1 := [.int (iI vz5)]) ⟨hx, hb, hml, hown, hts⟩ hK hPc (c_X3_lengthOf l D cI cZ cJ hcz) (cwV 1 hts gX7_newPrefixes_X3_lengthOf rfl rfl rfl (by decide +kernel) ⟨Nat.le_of_ble_eq_true rfl, Nat.le_of_ble_eq_true rfl⟩) 0 rfl rfl rfl rfl hl.1 rfl (lv_room (Nat.le_of_ble_eq_true rfl)) dX7_newPrefixes_56 ⟨Nat.zero_le _, Nat.zero_le _⟩ rfl ?_
  refine lv_iload hx hb dX7_newPrefixes_59 (lv_at hl 2 rfl) ?_
  refine k_isub hx hb dX7_newPrefixes_61 ?_
  cases hs
  exact k_iret_r hx hb hr hlk rfl dX7_newPrefixes_62 rfl
/-! X7_stateCount -/
set_option maxHeartbeats 4000000 in
set_option maxRecDepth 100000 in
theorem c_X7_stateCount (l : Launch) (D : va_G) (cI cZ cJ : ClassId) {ad : Nat → Nat} {x_work : Int} {x_rebuilds : Int} {x_reported : Int} {x_folding_on : Int} {x_buffer_length : Int} {a_buffer_bytes : (Int → Int)} {x_keywords_given : Int} {x_keywords_alive : Int} {a_keywords_bytes : (Int → Int)} {a_keywords_lengths : (Int → Int)} {a_keywords_weights : (Int → Int)} {a_keywords_lives : (Int → Int)} {x_mainSet_count : Int} {a_mainSet_members : (Int → Int)} {x_removalSet_count : Int} {a_removalSet_members : (Int → Int)} {x_superstring_slots : Int} {x_superstring_built : Int} {b_superstring_sw : Bool} {a_superstring_starts : (Int → Int)} {a_superstring_lengths : (Int → Int)} {a_superstring_overlaps : (Int → Int)} {x_superstring_area_length : Int} {a_superstring_area_bytes : (Int → Int)} {x_superstring_spare_length : Int} {a_superstring_spare_bytes : (Int → Int)} {x_stream_length : Int} {a_stream_bytes : (Int → Int)} {a_matches_words : (Int → Int)} {x_reports_size : Int} {a_reports_positions : (Int → Int)} {a_reports_numbers : (Int → Int)} {x_chosen_size : Int} {a_chosen_positions : (Int → Int)} {a_chosen_numbers : (Int → Int)} {a_depths : (Int → Int)} {a_bestFrom : (Int → Int)} {pz1 : Int} {r : Int} (hs : s_X7_stateCount x_folding_on x_keywords_given a_keywords_bytes a_keywords_lengths x_mainSet_count a_mainSet_members pz1 = some r) : Met l yX7_stateCount wsX7_stateCount rm_X7_stateCount (PR D vwCl [(cI, .int), (cZ, .boolean), (cJ, .long)] [.ref (ad 0), .int (iI pz1)] (wK cI cZ cJ ad x_work x_rebuilds x_reported x_folding_on x_buffer_length a_buffer_bytes x_keywords_given x_keywords_alive a_keywords_bytes a_keywords_lengths a_keywords_weights a_keywords_lives x_mainSet_count a_mainSet_members x_removalSet_count a_removalSet_members x_superstring_slots x_superstring_built b_superstring_sw a_superstring_starts a_superstring_lengths a_superstring_overlaps x_superstring_area_length a_superstring_area_bytes x_superstring_spare_length a_superstring_spare_bytes x_stream_length a_stream_bytes a_matches_words x_reports_size a_reports_positions a_reports_numbers x_chosen_size a_chosen_positions a_chosen_numbers a_depths a_bestFrom)) (QR (some (.int (iI r)))) 0 0 (fun _ => False) := by
  refine Met.ofW (cc := cX7_stateCount) (maxL := 6) (ret := (some .int)) (by decide) rfl ?_
  intro p e s m args below meth c s₁ B hml hv
  obtain ⟨hav, hP, hK⟩ := hv
  have hx := B.exec
  have hb := B.bytes
  have hr := B.returns
  have hts := atoms_spec (ws := wsX7_stateCount) B.pre
  have hown : s.vm.findClass RX7 = some m.cls := findClass_of_methodNamed B.named
  have hlk := B.notSynchronized
  have hf37 : (Cond.fieldLink RX7 37 "KeywordMatcher" "mainSet" "LKeywordMatcher$BucketSet;").before args s = true := hts _ (List.mem_of_getElem? (i := 1) rfl)
  have hiX7 : ∀ w ∈ wsX70, w ∈ wsX7_stateCount := fun w h => List.mem_cons_of_mem _ (List.mem_append_left _ (List.mem_append_left _ (List.mem_append_left _ (List.mem_append_right _ h))))
  have hl := lv_entry ([.ref (ad 0), .int (iI pz1)]) (n := 6) (Nat.le_of_ble_eq_true rfl)
  rw [show entryFrame m args 6 = entryFrame m ([.ref (ad 0), .int (iI pz1)] : List Value).toArray 6 from by rw [hav], lg_entry_eq]
  generalize (lg_sl ([.ref (ad 0), .int (iI pz1)]) ++ List.replicate (6 - (lg_sl ([.ref (ad 0), .int (iI pz1)])).length) Slot.unset).toArray = ls at hl ⊢
  have hl : lv_has ls 6 [(0, .ref (ad 0)), (1, .int (iI pz1))] := hl
  unfold s_X7_stateCount at hs
  have Lz41 : ∀ (fu : Nat) (l2 : Int) (l3 : Int) (l4 : Int) (l5 : Int) (y0 : Int), s_X7_stateCount_41 fu x_folding_on x_keywords_given a_keywords_bytes a_keywords_lengths x_mainSet_count a_mainSet_members l2 l3 l4 l5 = some y0 → ∀ ls : Array Slot, lv_has ls 6 [(0, .ref (ad 0)), (2, .int (iI l2)), (3, .int (iI l3)), (4, .int (iI l4)), (5, .int (iI l5))] → (∀ ls : Array Slot, lv_has ls 6 [(3, .int (iI y0))] → W p l e (headSpec wsX7_stateCount rm_X7_stateCount).room s m args below meth c s.heap [] 0 0 (MQ below (QR (some (.int (iI r)))) args s 0 0 (fun _ => False)) (F0 m 67 ls [])) → W p l e (headSpec wsX7_stateCount rm_X7_stateCount).room s m args below meth c s.heap [] 0 0 (MQ below (QR (some (.int (iI r)))) args s 0 0 (fun _ => False)) (F0 m 41 ls []) := by
    intro fu
    induction fu with
    | zero => intro l2 l3 l4 l5 y0 hs; cases hs
    | succ fu ih =>
      intro l2 l3 l4 l5 y0 hs ls hl kx
      rw [s_X7_stateCount_41_s] at hs
      refine lv_iload hx hb dX7_stateCount_41 (lv_at hl 4 rfl) ?_
      refine lv_iload hx hb dX7_stateCount_43 (lv_at hl 3 rfl) ?_
      refine lv_iload_n hx hb dX7_stateCount_45 rfl (lv_at hl 1 rfl) ?_
      refine k_iadd hx hb dX7_stateCount_46 ?_
      refine k_icmp_ge (tgt := 67) hx hb hs dX7_stateCount_47 (by decide) (fun hs => ?_) (fun hs => ?_)
      · refine lv_iload_n hx hb dX7_stateCount_50 rfl (lv_at hl 2 rfl) ?_
        refine lv_aload_n hx hb dX7_stateCount_51 rfl (lv_at hl 0 rfl) ?_
        refine lv_iload hx hb dX7_stateCount_52 (lv_at hl 3 rfl) ?_
        refine lv_iload hx hb dX7_stateCount_54 (lv_at hl 4 rfl) ?_
        obtain ⟨vz4, hcz, hs⟩ := bd1_some hs
        refine k_rV (As := [.int (iI l4), .int (iI l5)]) (rest := [.int (iI l3)]) (st1 := [.int (iI vz4), .int (iI l3)]) ⟨hx, hb, hml, hown, hts⟩ hK hP (c_X7_newPrefixes l D cI cZ cJ hcz) (cwV 2 hts gX7_stateCount_X7_newPrefixes rfl rfl rfl (by decide +kernel) ⟨Nat.le_of_ble_eq_true rfl, Nat.le_of_ble_eq_true rfl⟩) 0 rfl rfl rfl rfl hl.1 rfl (lv_room (Nat.le_of_ble_eq_true rfl)) dX7_stateCount_56 ⟨Nat.zero_le _, Nat.zero_le _⟩ rfl ?_
        refine k_iadd hx hb dX7_stateCount_59 ?_
        refine lv_istore_n (lv' := [(3, .int (iI (l3 + vz4))), (0, .ref (ad 0)), (2, .int (iI l2)), (4, .int (iI l4)), (5, .int (iI l5))]) hx hb dX7_stateCount_60 rfl hl (by decide) rfl (fun ls hl => ?_)
        refine k_iinc (x := l5) (k := 4) (lv' := [(5, .int (iI (l5 + 1))), (3, .int (iI (l3 + vz4))), (0, .ref (ad 0)), (2, .int (iI l2)), (4, .int (iI l4))]) hx hb dX7_stateCount_61 hl rfl (by decide) rfl (fun ls hl => ?_)
        refine lv_goto (tgt := 41) hx hb dX7_stateCount_64 (by decide) ?_
        exact ih l2 (l3 + vz4) l4 (l5 + 1) y0 hs ls (lv_sub hl [2, 3, 1, 4, 0] rfl) kx
      · cases hs
        exact kx ls (lv_sub hl [2] rfl)
  refine lv_iload_n hx hb dX7_stateCount_0 rfl (lv_at hl 1 rfl) ?_
  obtain ⟨vz1, hcz, hs⟩ := bd1_some hs
  refine k_rS (As := [.int (iI pz1)]) (rest := []) (st1 := [.int (iI vz1)]) ⟨hx, hb, hml, hown, hts⟩ hK (va_P_nil (D := D) (cl := vwCl)) (c_X7_isLevel l D cI cZ cJ hcz) (va_cwS 1 hts gX7_stateCount_X7_isLevel rfl rfl rfl (by decide +kernel) ⟨Nat.le_of_ble_eq_true rfl, Nat.le_of_ble_eq_true rfl⟩) rfl hl.1 rfl (lv_room (Nat.le_of_ble_eq_true rfl)) dX7_stateCount_1 ⟨Nat.zero_le _, Nat.zero_le _⟩ rfl ?_
  refine k_if_ne (tgt := 10) hx hb hs dX7_stateCount_4 (by decide) (fun hs => ?_) (fun hs => ?_)
  · refine k_bipush (n := (-3)) hx hb (by decide) dX7_stateCount_7 ?_
    cases hs
    exact k_iret_r hx hb hr hlk rfl dX7_stateCount_9 rfl
  · refine lv_aload_n hx hb dX7_stateCount_10 rfl (lv_at hl 0 rfl) ?_
    refine va_get (ci := 7) (v := .ref (ad 9)) (C := RX7) (T := TX7) (N := 15) hx hb hts hiX7 hown hK hP 0 rfl rfl 3 (by decide) hf37 (fun _ h9 => h9) rfl dX7_stateCount_11 ?_
    refine lv_iload_n hx hb dX7_stateCount_14 rfl (lv_at hl 1 rfl) ?_
    obtain ⟨vz2, hcz, hs⟩ := bd1_some hs
    have hPc : va_P D vwCl [((ad 9), .inr (0, [.ref (ad 10), .int (iI x_mainSet_count)])), ((ad 10), .inl (cI, 127, .inl (mI a_mainSet_members)))] s.heap := hP.sub [9, 10] rfl
    refine k_rV (As := [.int (iI pz1)]) (rest := []) (st1 := [.int (iI vz2)]) ⟨hx, hb, hml, hown, hts⟩ hK hPc (c_X0_sizeAt l D cI cZ cJ hcz) (cwV 1 hts gX7_stateCount_X0_sizeAt rfl rfl rfl (by decide +kernel) ⟨Nat.le_of_ble_eq_true rfl, Nat.le_of_ble_eq_true rfl⟩) 0 rfl rfl rfl rfl hl.1 rfl (lv_room (Nat.le_of_ble_eq_true rfl)) dX7_stateCount_15 ⟨Nat.zero_le _, Nat.zero_le _⟩ rfl ?_
    refine lv_istore_n (lv' := [(2, .int (iI vz2)), (0, .ref (ad 0)), (1, .int (iI pz1))]) hx hb dX7_stateCount_18 rfl hl (by decide) rfl (fun ls hl => ?_)
    refine lv_iload_n hx hb dX7_stateCount_19 rfl (lv_at hl 0 rfl) ?_
    refine k_if_ne (tgt := 25) hx hb hs dX7_stateCount_20 (by decide) (fun hs => ?_) (fun hs => ?_)
    · refine k_iconst (n := (-1)) hx hb dX7_stateCount_23 ?_
      cases hs
      exact k_iret_r hx hb hr hlk rfl dX7_stateCount_24 rfl
    · refine k_iconst (n := 1) hx hb dX7_stateCount_25 ?_
      refine lv_istore_n (lv' := [(3, .int (iI 1)), (2, .int (iI vz2)), (0, .ref (ad 0)), (1, .int (iI pz1))]) hx hb dX7_stateCount_26 rfl hl (by decide) rfl (fun ls hl => ?_)
      refine lv_aload_n hx hb dX7_stateCount_27 rfl (lv_at hl 2 rfl) ?_
      refine va_get (ci := 7) (v := .ref (ad 9)) (C := RX7) (T := TX7) (N := 15) hx hb hts hiX7 hown hK hP 0 rfl rfl 3 (by decide) hf37 (fun _ h9 => h9) rfl dX7_stateCount_28 ?_
      refine lv_iload_n hx hb dX7_stateCount_31 rfl (lv_at hl 3 rfl) ?_
      obtain ⟨vz3, hcz, hs⟩ := bd1_some hs
      have hPc : va_P D vwCl [((ad 9), .inr (0, [.ref (ad 10), .int (iI x_mainSet_count)])), ((ad 10), .inl (cI, 127, .inl (mI a_mainSet_members)))] s.heap := hP.sub [9, 10] rfl
      refine k_rV (As := [.int (iI pz1)]) (rest := []) (st1 := [.int (iI vz3)]) ⟨hx, hb, hml, hown, hts⟩ hK hPc (c_X0_firstAt l D cI cZ cJ hcz) (cwV 1 hts gX7_stateCount_X0_firstAt rfl rfl rfl (by decide +kernel) ⟨Nat.le_of_ble_eq_true rfl, Nat.le_of_ble_eq_true rfl⟩) 0 rfl rfl rfl rfl hl.1 rfl (lv_room (Nat.le_of_ble_eq_true rfl)) dX7_stateCount_32 ⟨Nat.zero_le _, Nat.zero_le _⟩ rfl ?_
      refine lv_istore (lv' := [(4, .int (iI vz3)), (3, .int (iI 1)), (2, .int (iI vz2)), (0, .ref (ad 0)), (1, .int (iI pz1))]) hx hb dX7_stateCount_35 hl (by decide) rfl (fun ls hl => ?_)
      refine lv_iload hx hb dX7_stateCount_37 (lv_at hl 0 rfl) ?_
      refine lv_istore (lv' := [(5, .int (iI vz3)), (4, .int (iI vz3)), (3, .int (iI 1)), (2, .int (iI vz2)), (0, .ref (ad 0)), (1, .int (iI pz1))]) hx hb dX7_stateCount_39 hl (by decide) rfl (fun ls hl => ?_)
      obtain ⟨ez5, hq, hs⟩ := bd1_some hs
      refine Lz41 FU vz2 1 vz3 vz3 ez5 hq ls (lv_sub hl [4, 3, 2, 1, 0] rfl) ?_
      intro ls hl
      refine lv_iload_n hx hb dX7_stateCount_67 rfl (lv_at hl 0 rfl) ?_
      cases hs
      exact k_iret_r hx hb hr hlk rfl dX7_stateCount_68 rfl
/-! X7_isPrefixInBucket -/
set_option maxHeartbeats 4000000 in
set_option maxRecDepth 100000 in
theorem c_X7_isPrefixInBucket (l : Launch) (D : va_G) (cI cZ cJ : ClassId) {ad : Nat → Nat} {q33 : Nat} {m1 : Nat} {x_work : Int} {x_rebuilds : Int} {x_reported : Int} {x_folding_on : Int} {x_buffer_length : Int} {a_buffer_bytes : (Int → Int)} {x_keywords_given : Int} {x_keywords_alive : Int} {a_keywords_bytes : (Int → Int)} {a_keywords_lengths : (Int → Int)} {a_keywords_weights : (Int → Int)} {a_keywords_lives : (Int → Int)} {x_mainSet_count : Int} {a_mainSet_members : (Int → Int)} {x_removalSet_count : Int} {a_removalSet_members : (Int → Int)} {x_superstring_slots : Int} {x_superstring_built : Int} {b_superstring_sw : Bool} {a_superstring_starts : (Int → Int)} {a_superstring_lengths : (Int → Int)} {a_superstring_overlaps : (Int → Int)} {x_superstring_area_length : Int} {a_superstring_area_bytes : (Int → Int)} {x_superstring_spare_length : Int} {a_superstring_spare_bytes : (Int → Int)} {x_stream_length : Int} {a_stream_bytes : (Int → Int)} {a_matches_words : (Int → Int)} {x_reports_size : Int} {a_reports_positions : (Int → Int)} {a_reports_numbers : (Int → Int)} {x_chosen_size : Int} {a_chosen_positions : (Int → Int)} {a_chosen_numbers : (Int → Int)} {a_depths : (Int → Int)} {a_bestFrom : (Int → Int)} {a_arg1 : (Int → Int)} {pz1 : Int} {pz3 : Int} {pz4 : Int} {r : Int} (hm1 : m1 ≤ 2147483647) (hs : s_X7_isPrefixInBucket m1 x_folding_on x_keywords_given a_keywords_bytes a_keywords_lengths x_mainSet_count a_mainSet_members a_arg1 pz1 pz3 pz4 = some r) : Met l yX7_isPrefixInBucket wsX7_isPrefixInBucket rm_X7_isPrefixInBucket (PR D vwCl [(cI, .int), (cZ, .boolean), (cJ, .long)] [.ref (ad 0), .int (iI pz1), .ref q33, .int (iI pz3), .int (iI pz4)] ((wK cI cZ cJ ad x_work x_rebuilds x_reported x_folding_on x_buffer_length a_buffer_bytes x_keywords_given x_keywords_alive a_keywords_bytes a_keywords_lengths a_keywords_weights a_keywords_lives x_mainSet_count a_mainSet_members x_removalSet_count a_removalSet_members x_superstring_slots x_superstring_built b_superstring_sw a_superstring_starts a_superstring_lengths a_superstring_overlaps x_superstring_area_length a_superstring_area_bytes x_superstring_spare_length a_superstring_spare_bytes x_stream_length a_stream_bytes a_matches_words x_reports_size a_reports_positions a_reports_numbers x_chosen_size a_chosen_positions a_chosen_numbers a_depths a_bestFrom) ++ [(q33, .inl (cI, m1, .inl (mI a_arg1)))])) (QR (some (.int (iI r)))) 0 0 (fun _ => False) := by
  refine Met.ofW (cc := cX7_isPrefixInBucket) (maxL := 8) (ret := (some .boolean)) (by decide) rfl ?_
  intro p e s m args below meth c s₁ B hml hv
  obtain ⟨hav, hP, hK⟩ := hv
  have hx := B.exec
  have hb := B.bytes
  have hr := B.returns
  have hts := atoms_spec (ws := wsX7_isPrefixInBucket) B.pre
  have hown : s.vm.findClass RX7 = some m.cls := findClass_of_methodNamed B.named
  have hlk := B.notSynchronized
  have hf37 : (Cond.fieldLink RX7 37 "KeywordMatcher" "mainSet" "LKeywordMatcher$BucketSet;").before args s = true := hts _ (List.mem_of_getElem? (i := 1) rfl)
  have hiX7 : ∀ w ∈ wsX70, w ∈ wsX7_isPrefixInBucket := fun w h => List.mem_cons_of_mem _ (List.mem_append_left _ (List.mem_append_left _ (List.mem_append_left _ (List.mem_append_right _ h))))
  have hf30 : (Cond.fieldLink RX7 30 "KeywordMatcher" "keywords" "LKeywordMatcher$Keywords;").before args s = true := hts _ (List.mem_of_getElem? (i := 2) rfl)
  have hl := lv_entry ([.ref (ad 0), .int (iI pz1), .ref q33, .int (iI pz3), .int (iI pz4)]) (n := 8) (Nat.le_of_ble_eq_true rfl)
  rw [show entryFrame m args 8 = entryFrame m ([.ref (ad 0), .int (iI pz1), .ref q33, .int (iI pz3), .int (iI pz4)] : List Value).toArray 8 from by rw [hav], lg_entry_eq]
  generalize (lg_sl ([.ref (ad 0), .int (iI pz1), .ref q33, .int (iI pz3), .int (iI pz4)]) ++ List.replicate (8 - (lg_sl ([.ref (ad 0), .int (iI pz1), .ref q33, .int (iI pz3), .int (iI pz4)])).length) Slot.unset).toArray = ls at hl ⊢
  have hl : lv_has ls 8 [(0, .ref (ad 0)), (1, .int (iI pz1)), (2, .ref q33), (3, .int (iI pz3)), (4, .int (iI pz4))] := hl
  unfold s_X7_isPrefixInBucket at hs
  have Lz27 : ∀ (fu : Nat) (l3 : Int) (l4 : Int) (l6 : Int) (l7 : Int), s_X7_isPrefixInBucket_27 m1 fu x_folding_on x_keywords_given a_keywords_bytes a_keywords_lengths x_mainSet_count a_mainSet_members a_arg1 l3 l4 l6 l7 = some r → ∀ ls : Array Slot, lv_has ls 8 [(0, .ref (ad 0)), (2, .ref q33), (3, .int (iI l3)), (4, .int (iI l4)), (6, .int (iI l6)), (7, .int (iI l7))] → W p l e (headSpec wsX7_isPrefixInBucket rm_X7_isPrefixInBucket).room s m args below meth c s.heap [] 0 0 (MQ below (QR (some (.int (iI r)))) args s 0 0 (fun _ => False)) (F0 m 27 ls []) := by
    intro fu
    induction fu with
    | zero => intro l3 l4 l6 l7 hs; cases hs
    | succ fu ih =>
      intro l3 l4 l6 l7 hs ls hl
      rw [s_X7_isPrefixInBucket_27_s] at hs
      refine lv_iload hx hb dX7_isPrefixInBucket_27 (lv_at hl 5 rfl) ?_
      refine lv_iload hx hb dX7_isPrefixInBucket_29 (lv_at hl 4 rfl) ?_
      refine k_icmp_ge (tgt := 65) hx hb hs dX7_isPrefixInBucket_31 (by decide) (fun hs => ?_) (fun hs => ?_)
      · refine lv_aload_n hx hb dX7_isPrefixInBucket_34 rfl (lv_at hl 0 rfl) ?_
        refine va_get (ci := 7) (v := .ref (ad 4)) (C := RX7) (T := TX7) (N := 15) hx hb hts hiX7 hown hK hP 0 rfl rfl 2 (by decide) hf30 (fun _ h9 => h9) rfl dX7_isPrefixInBucket_35 ?_
        refine lv_aload_n hx hb dX7_isPrefixInBucket_38 rfl (lv_at hl 0 rfl) ?_
        refine va_get (ci := 7) (v := .ref (ad 9)) (C := RX7) (T := TX7) (N := 15) hx hb hts hiX7 hown hK hP 0 rfl rfl 3 (by decide) hf37 (fun _ h9 => h9) rfl dX7_isPrefixInBucket_39 ?_
        refine lv_iload hx hb dX7_isPrefixInBucket_42 (lv_at hl 5 rfl) ?_
        obtain ⟨vz3, hcz, hs⟩ := bd1_some hs
        have hPc : va_P D vwCl [((ad 9), .inr (0, [.ref (ad 10), .int (iI x_mainSet_count)])), ((ad 10), .inl (cI, 127, .inl (mI a_mainSet_members)))] s.heap := hP.sub [9, 10] rfl
        refine k_rV (As := [.int (iI l7)]) (rest := [.ref (ad 4)]) (st1 := [.int (iI vz3), .ref (ad 4)]) ⟨hx, hb, hml, hown, hts⟩ hK hPc (c_X0_memberAt l D cI cZ cJ hcz) (cwV 1 hts gX7_isPrefixInBucket_X0_memberAt rfl rfl rfl (by decide +kernel) ⟨Nat.le_of_ble_eq_true rfl, Nat.le_of_ble_eq_true rfl⟩) 0 rfl rfl rfl rfl hl.1 rfl (lv_room (Nat.le_of_ble_eq_true rfl)) dX7_isPrefixInBucket_44 ⟨Nat.zero_le _, Nat.zero_le _⟩ rfl ?_
        refine lv_aload_n hx hb dX7_isPrefixInBucket_47 rfl (lv_at hl 1 rfl) ?_
        refine lv_iload_n hx hb dX7_isPrefixInBucket_48 rfl (lv_at hl 2 rfl) ?_
        refine lv_iload hx hb dX7_isPrefixInBucket_49 (lv_at hl 3 rfl) ?_
        obtain ⟨vz4, hcz, hs⟩ := bd1_some hs
        have hPc : va_P D vwCl [((ad 4), .inr (3, [.ref (ad 1), .ref (ad 5), .ref (ad 6), .ref (ad 7), .ref (ad 8), .int (iI x_keywords_given), .int (iI x_keywords_alive)])), ((ad 1), .inr (2, [.int (iI x_folding_on)])), ((ad 5), .inl (cI, 1920, .inl (mI a_keywords_bytes))), ((ad 6), .inl (cI, 120, .inl (mI a_keywords_lengths))), ((ad 7), .inl (cI, 120, .inl (mI a_keywords_weights))), ((ad 8), .inl (cZ, 120, .inl (mI a_keywords_lives))), (q33, .inl (cI, m1, .inl (mI a_arg1)))] s.heap := hP.sub [4, 1, 5, 6, 7, 8, 33] rfl
        refine k_rV (As := [.int (iI vz3), .ref q33, .int (iI l3), .int (iI l4)]) (rest := []) (st1 := [.int (iI vz4)]) ⟨hx, hb, hml, hown, hts⟩ hK hPc (c_X3_startsWith l D cI cZ cJ hm1 hcz) (cwV 4 hts gX7_isPrefixInBucket_X3_startsWith rfl rfl rfl (by decide +kernel) ⟨Nat.le_of_ble_eq_true rfl, Nat.le_of_ble_eq_true rfl⟩) 0 rfl rfl rfl rfl hl.1 rfl (lv_room (Nat.le_of_ble_eq_true rfl)) dX7_isPrefixInBucket_51 ⟨Nat.zero_le _, Nat.zero_le _⟩ rfl ?_
        refine k_if_eq (tgt := 59) hx hb hs dX7_isPrefixInBucket_54 (by decide) (fun hs => ?_) (fun hs => ?_)
        · refine k_iinc (x := l7) (k := 5) (lv' := [(7, .int (iI (l7 + 1))), (0, .ref (ad 0)), (2, .ref q33), (3, .int (iI l3)), (4, .int (iI l4)), (6, .int (iI l6))]) hx hb dX7_isPrefixInBucket_59 hl rfl (by decide) rfl (fun ls hl => ?_)
          refine lv_goto (tgt := 27) hx hb dX7_isPrefixInBucket_62 (by decide) ?_
          exact ih l3 l4 l6 (l7 + 1)  hs ls (lv_sub hl [1, 2, 3, 4, 5, 0] rfl)
        · refine k_iconst (n := 1) hx hb dX7_isPrefixInBucket_57 ?_
          cases hs
          exact k_zret_r hx hb hr hlk rfl (by decide) dX7_isPrefixInBucket_58 rfl
      · refine k_iconst (n := 0) hx hb dX7_isPrefixInBucket_65 ?_
        cases hs
        exact k_zret_r hx hb hr hlk rfl (by decide) dX7_isPrefixInBucket_66 rfl
  refine lv_aload_n hx hb dX7_isPrefixInBucket_0 rfl (lv_at hl 0 rfl) ?_
  refine va_get (ci := 7) (v := .ref (ad 9)) (C := RX7) (T := TX7) (N := 15) hx hb hts hiX7 hown hK hP 0 rfl rfl 3 (by decide) hf37 (fun _ h9 => h9) rfl dX7_isPrefixInBucket_1 ?_
  refine lv_iload_n hx hb dX7_isPrefixInBucket_4 rfl (lv_at hl 1 rfl) ?_
  obtain ⟨vz1, hcz, hs⟩ := bd1_some hs
  have hPc : va_P D vwCl [((ad 9), .inr (0, [.ref (ad 10), .int (iI x_mainSet_count)])), ((ad 10), .inl (cI, 127, .inl (mI a_mainSet_members)))] s.heap := hP.sub [9, 10] rfl
  refine k_rV (As := [.int (iI pz1)]) (rest := []) (st1 := [.int (iI vz1)]) ⟨hx, hb, hml, hown, hts⟩ hK hPc (c_X0_firstAt l D cI cZ cJ hcz) (cwV 1 hts gX7_isPrefixInBucket_X0_firstAt rfl rfl rfl (by decide +kernel) ⟨Nat.le_of_ble_eq_true rfl, Nat.le_of_ble_eq_true rfl⟩) 0 rfl rfl rfl rfl hl.1 rfl (lv_room (Nat.le_of_ble_eq_true rfl)) dX7_isPrefixInBucket_5 ⟨Nat.zero_le _, Nat.zero_le _⟩ rfl ?_
  refine lv_istore (lv' := [(5, .int (iI vz1)), (0, .ref (ad 0)), (1, .int (iI pz1)), (2, .ref q33), (3, .int (iI pz3)), (4, .int (iI pz4))]) hx hb dX7_isPrefixInBucket_8 hl (by decide) rfl (fun ls hl => ?_)
  refine lv_iload hx hb dX7_isPrefixInBucket_10 (lv_at hl 0 rfl) ?_
  refine lv_aload_n hx hb dX7_isPrefixInBucket_12 rfl (lv_at hl 1 rfl) ?_
  refine va_get (ci := 7) (v := .ref (ad 9)) (C := RX7) (T := TX7) (N := 15) hx hb hts hiX7 hown hK hP 0 rfl rfl 3 (by decide) hf37 (fun _ h9 => h9) rfl dX7_isPrefixInBucket_13 ?_
  refine lv_iload_n hx hb dX7_isPrefixInBucket_16 rfl (lv_at hl 2 rfl) ?_
  obtain ⟨vz2, hcz, hs⟩ := bd1_some hs
  have hPc : va_P D vwCl [((ad 9), .inr (0, [.ref (ad 10), .int (iI x_mainSet_count)])), ((ad 10), .inl (cI, 127, .inl (mI a_mainSet_members)))] s.heap := hP.sub [9, 10] rfl
  refine k_rV (As := [.int (iI pz1)]) (rest := [.int (iI vz1)]) (st1 := [.int (iI vz2), .int (iI vz1)]) ⟨hx, hb, hml, hown, hts⟩ hK hPc (c_X0_sizeAt l D cI cZ cJ hcz) (cwV 1 hts gX7_isPrefixInBucket_X0_sizeAt rfl rfl rfl (by decide +kernel) ⟨Nat.le_of_ble_eq_true rfl, Nat.le_of_ble_eq_true rfl⟩) 0 rfl rfl rfl rfl hl.1 rfl (lv_room (Nat.le_of_ble_eq_true rfl)) dX7_isPrefixInBucket_17 ⟨Nat.zero_le _, Nat.zero_le _⟩ rfl ?_
  refine k_iadd hx hb dX7_isPrefixInBucket_20 ?_
  refine lv_istore (lv' := [(6, .int (iI (vz1 + vz2))), (5, .int (iI vz1)), (0, .ref (ad 0)), (1, .int (iI pz1)), (2, .ref q33), (3, .int (iI pz3)), (4, .int (iI pz4))]) hx hb dX7_isPrefixInBucket_21 hl (by decide) rfl (fun ls hl => ?_)
  refine lv_iload hx hb dX7_isPrefixInBucket_23 (lv_at hl 1 rfl) ?_
  refine lv_istore (lv' := [(7, .int (iI vz1)), (6, .int (iI (vz1 + vz2))), (5, .int (iI vz1)), (0, .ref (ad 0)), (1, .int (iI pz1)), (2, .ref q33), (3, .int (iI pz3)), (4, .int (iI pz4))]) hx hb dX7_isPrefixInBucket_25 hl (by decide) rfl (fun ls hl => ?_)
  exact Lz27 FU pz3 pz4 (vz1 + vz2) vz1 hs ls (lv_sub hl [3, 5, 6, 7, 1, 0] rfl)
