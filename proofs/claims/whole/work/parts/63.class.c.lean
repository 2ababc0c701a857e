/-! X7_longestPrefixBefore -/
set_option maxHeartbeats 4000000 in
set_option maxRecDepth 100000 in
theorem c_X7_longestPrefixBefore (l : Launch) (D : va_G) (cI cZ cJ : ClassId) {ad : Nat → Nat} {q33 : Nat} {m1 : Nat} {x_work : Int} {x_rebuilds : Int} {x_reported : Int} {x_folding_on : Int} {x_buffer_length : Int} {a_buffer_bytes : (Int → Int)} {x_keywords_given : Int} {x_keywords_alive : Int} {a_keywords_bytes : (Int → Int)} {a_keywords_lengths : (Int → Int)} {a_keywords_weights : (Int → Int)} {a_keywords_lives : (Int → Int)} {x_mainSet_count : Int} {a_mainSet_members : (Int → Int)} {x_removalSet_count : Int} {a_removalSet_members : (Int → Int)} {x_superstring_slots : Int} {x_superstring_built : Int} {b_superstring_sw : Bool} {a_superstring_starts : (Int → Int)} {a_superstring_lengths : (Int → Int)} {a_superstring_overlaps : (Int → Int)} {x_superstring_area_length : Int} {a_superstring_area_bytes : (Int → Int)} {x_superstring_spare_length : Int} {a_superstring_spare_bytes : (Int → Int)} {x_stream_length : Int} {a_stream_bytes : (Int → Int)} {a_matches_words : (Int → Int)} {x_reports_size : Int} {a_reports_positions : (Int → Int)} {a_reports_numbers : (Int → Int)} {x_chosen_size : Int} {a_chosen_positions : (Int → Int)} {a_chosen_numbers : (Int → Int)} {a_depths : (Int → Int)} {a_bestFrom : (Int → Int)} {a_arg1 : (Int → Int)} {pz1 : Int} {pz3 : Int} {pz4 : Int} {r : Int} (hm1 : m1 ≤ 2147483647) (hs : s_X7_longestPrefixBefore m1 x_folding_on x_keywords_given a_keywords_bytes a_keywords_lengths x_mainSet_count a_mainSet_members a_arg1 pz1 pz3 pz4 = some r) : Met l yX7_longestPrefixBefore wsX7_longestPrefixBefore rm_X7_longestPrefixBefore (PR D vwCl [(cI, .int), (cZ, .boolean), (cJ, .long)] [.ref (ad 0), .int (iI pz1), .ref q33, .int (iI pz3), .int (iI pz4)] ((wK cI cZ cJ ad x_work x_rebuilds x_reported x_folding_on x_buffer_length a_buffer_bytes x_keywords_given x_keywords_alive a_keywords_bytes a_keywords_lengths a_keywords_weights a_keywords_lives x_mainSet_count a_mainSet_members x_removalSet_count a_removalSet_members x_superstring_slots x_superstring_built b_superstring_sw a_superstring_starts a_superstring_lengths a_superstring_overlaps x_superstring_area_length a_superstring_area_bytes x_superstring_spare_length a_superstring_spare_bytes x_stream_length a_stream_bytes a_matches_words x_reports_size a_reports_positions a_reports_numbers x_chosen_size a_chosen_positions a_chosen_numbers a_depths a_bestFrom) ++ [(q33, .inl (cI, m1, .inl (mI a_arg1)))])) (QR (some (.int (iI r)))) 0 0 (fun _ => False) := by
  refine Met.ofW (cc := cX7_longestPrefixBefore) (maxL := 6) (ret := (some .int)) (by decide) rfl ?_
  intro p e s m args below meth c s₁ B hml hv
  obtain ⟨hav, hP, hK⟩ := hv
  have hx := B.exec
  have hb := B.bytes
  have hr := B.returns
  have hts := atoms_spec (ws := wsX7_longestPrefixBefore) B.pre
  have hown : s.vm.findClass RX7 = some m.cls := findClass_of_methodNamed B.named
  have hlk := B.notSynchronized
  have hl := lv_entry ([.ref (ad 0), .int (iI pz1), .ref q33, .int (iI pz3), .int (iI pz4)]) (n := 6) (Nat.le_of_ble_eq_true rfl)
  rw [show entryFrame m args 6 = entryFrame m ([.ref (ad 0), .int (iI pz1), .ref q33, .int (iI pz3), .int (iI pz4)] : List Value).toArray 6 from by rw [hav], lg_entry_eq]
  generalize (lg_sl ([.ref (ad 0), .int (iI pz1), .ref q33, .int (iI pz3), .int (iI pz4)]) ++ List.replicate (6 - (lg_sl ([.ref (ad 0), .int (iI pz1), .ref q33, .int (iI pz3), .int (iI pz4)])).length) Slot.unset).toArray = ls at hl ⊢
  have hl : lv_has ls 6 [(0, .ref (ad 0)), (1, .int (iI pz1)), (2, .ref q33), (3, .int (iI pz3)), (4, .int (iI pz4))] := hl
  unfold s_X7_longestPrefixBefore at hs
  have Lz4 : ∀ (fu : Nat) (l1 : Int) (l3 : Int) (l5 : Int), s_X7_longestPrefixBefore_4 m1 fu x_folding_on x_keywords_given a_keywords_bytes a_keywords_lengths x_mainSet_count a_mainSet_members a_arg1 l1 l3 l5 = some r → ∀ ls : Array Slot, lv_has ls 6 [(0, .ref (ad 0)), (1, .int (iI l1)), (2, .ref q33), (3, .int (iI l3)), (5, .int (iI l5))] → W p l e (headSpec wsX7_longestPrefixBefore rm_X7_longestPrefixBefore).room s m args below meth c s.heap [] 0 0 (MQ below (QR (some (.int (iI r)))) args s 0 0 (fun _ => False)) (F0 m 4 ls []) := by
    intro fu
    induction fu with
    | zero => intro l1 l3 l5 hs; cases hs
    | succ fu ih =>
      intro l1 l3 l5 hs ls hl
      rw [s_X7_longestPrefixBefore_4_s] at hs
      refine lv_iload hx hb dX7_longestPrefixBefore_4 (lv_at hl 4 rfl) ?_
      refine k_if_le (tgt := 33) hx hb hs dX7_longestPrefixBefore_6 (by decide) (fun hs => ?_) (fun hs => ?_)
      · refine lv_aload_n hx hb dX7_longestPrefixBefore_9 rfl (lv_at hl 0 rfl) ?_
        refine lv_iload_n hx hb dX7_longestPrefixBefore_10 rfl (lv_at hl 1 rfl) ?_
        refine lv_aload_n hx hb dX7_longestPrefixBefore_11 rfl (lv_at hl 2 rfl) ?_
        refine lv_iload_n hx hb dX7_longestPrefixBefore_12 rfl (lv_at hl 3 rfl) ?_
        refine lv_iload hx hb dX7_longestPrefixBefore_13 (lv_at hl 4 rfl) ?_
        refine k_isub hx hb dX7_longestPrefixBefore_15 ?_
        refine lv_iload hx hb dX7_longestPrefixBefore_16 (lv_at hl 4 rfl) ?_
        obtain ⟨vz1, hcz, hs⟩ := bd1_some hs
        refine k_rV (As := [.int (iI l1), .ref q33, .int (iI (l3 - l5)), .int (iI l5)]) (rest := []) (st1 := [.int (iI vz1)]) ⟨hx, hb, hml, hown, hts⟩ hK hP (c_X7_isPrefixInBucket l D cI cZ cJ hm1 hcz) (cwV 4 hts gX7_longestPrefixBefore_X7_isPrefixInBucket rfl rfl rfl (by decide +kernel) ⟨Nat.le_of_ble_eq_true rfl, Nat.le_of_ble_eq_true rfl⟩) 0 rfl rfl rfl rfl hl.1 rfl (lv_room (Nat.le_of_ble_eq_true rfl)) dX7_longestPrefixBefore_18 ⟨Nat.zero_le _, Nat.zero_le _⟩ rfl ?_
        refine k_if_eq (tgt := 27) hx hb hs dX7_longestPrefixBefore_21 (by decide) (fun hs => ?_) (fun hs => ?_)
        · refine k_iinc (x := l5) (k := 4) (lv' := [(5, .int (iI (l5 + (-1)))), (0, .ref (ad 0)), (1, .int (iI l1)), (2, .ref q33), (3, .int (iI l3))]) hx hb dX7_longestPrefixBefore_27 hl rfl (by decide) rfl (fun ls hl => ?_)
          refine lv_goto (tgt := 4) hx hb dX7_longestPrefixBefore_30 (by decide) ?_
          exact ih l1 l3 (l5 + (-1))  hs ls (lv_sub hl [1, 2, 3, 4, 0] rfl)
        · refine lv_iload hx hb dX7_longestPrefixBefore_24 (lv_at hl 4 rfl) ?_
          cases hs
          exact k_iret_r hx hb hr hlk rfl dX7_longestPrefixBefore_26 rfl
      · refine k_iconst (n := 0) hx hb dX7_longestPrefixBefore_33 ?_
        cases hs
        exact k_iret_r hx hb hr hlk rfl dX7_longestPrefixBefore_34 rfl
  refine lv_iload hx hb dX7_longestPrefixBefore_0 (lv_at hl 4 rfl) ?_
  refine lv_istore (lv' := [(5, .int (iI pz4)), (0, .ref (ad 0)), (1, .int (iI pz1)), (2, .ref q33), (3, .int (iI pz3)), (4, .int (iI pz4))]) hx hb dX7_longestPrefixBefore_2 hl (by decide) rfl (fun ls hl => ?_)
  exact Lz4 FU pz1 pz3 pz4 hs ls (lv_sub hl [1, 2, 3, 4, 0] rfl)
/-! X7_currentDepth -/
set_option maxHeartbeats 4000000 in
set_option maxRecDepth 100000 in
theorem c_X7_currentDepth (l : Launch) (D : va_G) (cI cZ cJ : ClassId) {ad : Nat → Nat} {x_work : Int} {x_rebuilds : Int} {x_reported : Int} {x_folding_on : Int} {x_buffer_length : Int} {a_buffer_bytes : (Int → Int)} {x_keywords_given : Int} {x_keywords_alive : Int} {a_keywords_bytes : (Int → Int)} {a_keywords_lengths : (Int → Int)} {a_keywords_weights : (Int → Int)} {a_keywords_lives : (Int → Int)} {x_mainSet_count : Int} {a_mainSet_members : (Int → Int)} {x_removalSet_count : Int} {a_removalSet_members : (Int → Int)} {x_superstring_slots : Int} {x_superstring_built : Int} {b_superstring_sw : Bool} {a_superstring_starts : (Int → Int)} {a_superstring_lengths : (Int → Int)} {a_superstring_overlaps : (Int → Int)} {x_superstring_area_length : Int} {a_superstring_area_bytes : (Int → Int)} {x_superstring_spare_length : Int} {a_superstring_spare_bytes : (Int → Int)} {x_stream_length : Int} {a_stream_bytes : (Int → Int)} {a_matches_words : (Int → Int)} {x_reports_size : Int} {a_reports_positions : (Int → Int)} {a_reports_numbers : (Int → Int)} {x_chosen_size : Int} {a_chosen_positions : (Int → Int)} {a_chosen_numbers : (Int → Int)} {a_depths : (Int → Int)} {a_bestFrom : (Int → Int)} {pz1 : Int} {r : Int} (hs : s_X7_currentDepth x_folding_on x_keywords_given a_keywords_bytes a_keywords_lengths x_mainSet_count a_mainSet_members x_stream_length a_stream_bytes pz1 = some r) : Met l yX7_currentDepth wsX7_currentDepth rm_X7_currentDepth (PR D vwCl [(cI, .int), (cZ, .boolean), (cJ, .long)] [.ref (ad 0), .int (iI pz1)] (wK cI cZ cJ ad x_work x_rebuilds x_reported x_folding_on x_buffer_length a_buffer_bytes x_keywords_given x_keywords_alive a_keywords_bytes a_keywords_lengths a_keywords_weights a_keywords_lives x_mainSet_count a_mainSet_members x_removalSet_count a_removalSet_members x_superstring_slots x_superstring_built b_superstring_sw a_superstring_starts a_superstring_lengths a_superstring_overlaps x_superstring_area_length a_superstring_area_bytes x_superstring_spare_length a_superstring_spare_bytes x_stream_length a_stream_bytes a_matches_words x_reports_size a_reports_positions a_reports_numbers x_chosen_size a_chosen_positions a_chosen_numbers a_depths a_bestFrom)) (QR (some (.int (iI r)))) 0 0 (fun _ => False) := by
  refine Met.ofW (cc := cX7_currentDepth) (maxL := 2) (ret := (some .int)) (by decide) rfl ?_
  intro p e s m args below meth c s₁ B hml hv
  obtain ⟨hav, hP, hK⟩ := hv
  have hx := B.exec
  have hb := B.bytes
  have hr := B.returns
  have hts := atoms_spec (ws := wsX7_currentDepth) B.pre
  have hown : s.vm.findClass RX7 = some m.cls := findClass_of_methodNamed B.named
  have hlk := B.notSynchronized
  have hf37 : (Cond.fieldLink RX7 37 "KeywordMatcher" "mainSet" "LKeywordMatcher$BucketSet;").before args s = true := hts _ (List.mem_of_getElem? (i := 1) rfl)
  have hiX7 : ∀ w ∈ wsX70, w ∈ wsX7_currentDepth := fun w h => List.mem_cons_of_mem _ (List.mem_append_left _ (List.mem_append_left _ (List.mem_append_left _ (List.mem_append_left _ (List.mem_append_right _ h)))))
  have hf51 : (Cond.fieldLink RX7 51 "KeywordMatcher" "stream" "LKeywordMatcher$ByteRow;").before args s = true := hts _ (List.mem_of_getElem? (i := 2) rfl)
  have hf194 : (Cond.fieldLink RX7 194 "KeywordMatcher$ByteRow" "bytes" "[I").before args s = true := hts _ (List.mem_of_getElem? (i := 3) rfl)
  have hiX1 : ∀ w ∈ wsX10, w ∈ wsX7_currentDepth := fun w h => List.mem_cons_of_mem _ (List.mem_append_left _ (List.mem_append_left _ (List.mem_append_left _ (List.mem_append_right _ h))))
  have hf89 : (Cond.fieldLink RX7 89 "KeywordMatcher$ByteRow" "length" "I").before args s = true := hts _ (List.mem_of_getElem? (i := 4) rfl)
  have hm197 : (Cond.methodLink RX7 197 Lib.Math.min.name).before args s = true := hts _ (List.mem_of_getElem? (i := 5) rfl)
  have hst_min : (Cond.static Lib.Math.min.name).before args s = true := hts _ (List.mem_of_getElem? (i := 6) rfl)
  have hin_Math : (Cond.initialized "java/lang/Math").before args s = true := hts _ (List.mem_of_getElem? (i := 7) rfl)
  have hcd_min : (Cond.code Lib.Math.min.name Lib.Math.min.code 2 (some .int)).before args s = true := hts _ (List.mem_of_getElem? (i := 8) rfl)
  have hl := lv_entry ([.ref (ad 0), .int (iI pz1)]) (n := 2) (Nat.le_of_ble_eq_true rfl)
  rw [show entryFrame m args 2 = entryFrame m ([.ref (ad 0), .int (iI pz1)] : List Value).toArray 2 from by rw [hav], lg_entry_eq]
  generalize (lg_sl ([.ref (ad 0), .int (iI pz1)]) ++ List.replicate (2 - (lg_sl ([.ref (ad 0), .int (iI pz1)])).length) Slot.unset).toArray = ls at hl ⊢
  have hl : lv_has ls 2 [(0, .ref (ad 0)), (1, .int (iI pz1))] := hl
  unfold s_X7_currentDepth at hs
  refine lv_iload_n hx hb dX7_currentDepth_0 rfl (lv_at hl 1 rfl) ?_
  obtain ⟨vz1, hcz, hs⟩ := bd1_some hs
  refine k_rS (As := [.int (iI pz1)]) (rest := []) (st1 := [.int (iI vz1)]) ⟨hx, hb, hml, hown, hts⟩ hK (va_P_nil (D := D) (cl := vwCl)) (c_X7_isLevel l D cI cZ cJ hcz) (va_cwS 1 hts gX7_currentDepth_X7_isLevel rfl rfl rfl (by decide +kernel) ⟨Nat.le_of_ble_eq_true rfl, Nat.le_of_ble_eq_true rfl⟩) rfl hl.1 rfl (lv_room (Nat.le_of_ble_eq_true rfl)) dX7_currentDepth_1 ⟨Nat.zero_le _, Nat.zero_le _⟩ rfl ?_
  refine k_if_ne (tgt := 10) hx hb hs dX7_currentDepth_4 (by decide) (fun hs => ?_) (fun hs => ?_)
  · refine k_bipush (n := (-3)) hx hb (by decide) dX7_currentDepth_7 ?_
    cases hs
    exact k_iret_r hx hb hr hlk rfl dX7_currentDepth_9 rfl
  · refine lv_aload_n hx hb dX7_currentDepth_10 rfl (lv_at hl 0 rfl) ?_
    refine va_get (ci := 7) (v := .ref (ad 9)) (C := RX7) (T := TX7) (N := 15) hx hb hts hiX7 hown hK hP 0 rfl rfl 3 (by decide) hf37 (fun _ h9 => h9) rfl dX7_currentDepth_11 ?_
    refine lv_iload_n hx hb dX7_currentDepth_14 rfl (lv_at hl 1 rfl) ?_
    obtain ⟨vz2, hcz, hs⟩ := bd1_some hs
    have hPc : va_P D vwCl [((ad 9), .inr (0, [.ref (ad 10), .int (iI x_mainSet_count)])), ((ad 10), .inl (cI, 127, .inl (mI a_mainSet_members)))] s.heap := hP.sub [9, 10] rfl
    refine k_rV (As := [.int (iI pz1)]) (rest := []) (st1 := [.int (iI vz2)]) ⟨hx, hb, hml, hown, hts⟩ hK hPc (c_X0_sizeAt l D cI cZ cJ hcz) (cwV 1 hts gX7_currentDepth_X0_sizeAt rfl rfl rfl (by decide +kernel) ⟨Nat.le_of_ble_eq_true rfl, Nat.le_of_ble_eq_true rfl⟩) 0 rfl rfl rfl rfl hl.1 rfl (lv_room (Nat.le_of_ble_eq_true rfl)) dX7_currentDepth_15 ⟨Nat.zero_le _, Nat.zero_le _⟩ rfl ?_
    refine k_if_ne (tgt := 23) hx hb hs dX7_currentDepth_18 (by decide) (fun hs => ?_) (fun hs => ?_)
    · refine k_iconst (n := (-1)) hx hb dX7_currentDepth_21 ?_
      cases hs
      exact k_iret_r hx hb hr hlk rfl dX7_currentDepth_22 rfl
    · refine lv_aload_n hx hb dX7_currentDepth_23 rfl (lv_at hl 0 rfl) ?_
      refine lv_iload_n hx hb dX7_currentDepth_24 rfl (lv_at hl 1 rfl) ?_
      refine lv_aload_n hx hb dX7_currentDepth_25 rfl (lv_at hl 0 rfl) ?_
      refine va_get (ci := 7) (v := .ref (ad 21)) (C := RX7) (T := TX7) (N := 15) hx hb hts hiX7 hown hK hP 0 rfl rfl 6 (by decide) hf51 (fun _ h9 => h9) rfl dX7_currentDepth_26 ?_
      refine va_get (ci := 1) (v := .ref (ad 22)) (C := RX1) (T := TX1) (N := 2) hx hb hts hiX1 hown hK hP 21 rfl rfl 0 (by decide) hf194 (fun _ h9 => h9) rfl dX7_currentDepth_29 ?_
      refine lv_aload_n hx hb dX7_currentDepth_32 rfl (lv_at hl 0 rfl) ?_
      refine va_get (ci := 7) (v := .ref (ad 21)) (C := RX7) (T := TX7) (N := 15) hx hb hts hiX7 hown hK hP 0 rfl rfl 6 (by decide) hf51 (fun _ h9 => h9) rfl dX7_currentDepth_33 ?_
      refine va_get (ci := 1) (v := .int (iI x_stream_length)) (C := RX1) (T := TX1) (N := 2) hx hb hts hiX1 hown hK hP 21 rfl rfl 1 (by decide) hf89 (fun _ h9 => h9) rfl dX7_currentDepth_36 ?_
      refine k_bipush (n := 16) hx hb (by decide) dX7_currentDepth_39 ?_
      refine lv_aload_n hx hb dX7_currentDepth_41 rfl (lv_at hl 0 rfl) ?_
      refine va_get (ci := 7) (v := .ref (ad 21)) (C := RX7) (T := TX7) (N := 15) hx hb hts hiX7 hown hK hP 0 rfl rfl 6 (by decide) hf51 (fun _ h9 => h9) rfl dX7_currentDepth_42 ?_
      refine va_get (ci := 1) (v := .int (iI x_stream_length)) (C := RX1) (T := TX1) (N := 2) hx hb hts hiX1 hown hK hP 21 rfl rfl 1 (by decide) hf89 (fun _ h9 => h9) rfl dX7_currentDepth_45 ?_
      refine k_mmin hx hb (hml.trans hl.1.symm) hown hm197 hst_min hin_Math hcd_min (Nat.le_of_ble_eq_true rfl) (Nat.le_of_ble_eq_true rfl) (Nat.zero_le _) (Nat.zero_le _) hs dX7_currentDepth_48 (fun hs => ?_)
      obtain ⟨vz3, hcz, hs⟩ := bd1_some hs
      have hPc : va_P D vwCl ((wK cI cZ cJ ad x_work x_rebuilds x_reported x_folding_on x_buffer_length a_buffer_bytes x_keywords_given x_keywords_alive a_keywords_bytes a_keywords_lengths a_keywords_weights a_keywords_lives x_mainSet_count a_mainSet_members x_removalSet_count a_removalSet_members x_superstring_slots x_superstring_built b_superstring_sw a_superstring_starts a_superstring_lengths a_superstring_overlaps x_superstring_area_length a_superstring_area_bytes x_superstring_spare_length a_superstring_spare_bytes x_stream_length a_stream_bytes a_matches_words x_reports_size a_reports_positions a_reports_numbers x_chosen_size a_chosen_positions a_chosen_numbers a_depths a_bestFrom) ++ [((ad 22), .inl (cI, 600, .inl (mI a_stream_bytes)))]) s.heap := hP.sub [0, 1, 2, 3, 4, 5, 6, 7, 8, 9, 10, 11, 12, 13, 14, 15, 16, 17, 18, 19, 20, 21, 22, 23, 24, 25, 26, 27, 28, 29, 30, 31, 32, 22] rfl
      refine k_rV (As := [.int (iI pz1), .ref (ad 22), .int (iI x_stream_length), .int (iI (iMin 16 x_stream_length))]) (rest := []) (st1 := [.int (iI vz3)]) ⟨hx, hb, hml, hown, hts⟩ hK hPc (c_X7_longestPrefixBefore l D cI cZ cJ (Nat.le_of_ble_eq_true rfl) hcz) (cwV 4 hts gX7_currentDepth_X7_longestPrefixBefore rfl rfl rfl (by decide +kernel) ⟨Nat.le_of_ble_eq_true rfl, Nat.le_of_ble_eq_true rfl⟩) 0 rfl rfl rfl rfl hl.1 rfl (lv_room (Nat.le_of_ble_eq_true rfl)) dX7_currentDepth_51 ⟨Nat.zero_le _, Nat.zero_le _⟩ rfl ?_
      cases hs
      exact k_iret_r hx hb hr hlk rfl dX7_currentDepth_54 rfl
/-! X7_levelOf -/
set_option maxHeartbeats 4000000 in
set_option maxRecDepth 100000 in
theorem c_X7_levelOf (l : Launch) (D : va_G) (cI cZ cJ : ClassId) {ad : Nat → Nat} {x_work : Int} {x_rebuilds : Int} {x_reported : Int} {x_folding_on : Int} {x_buffer_length : Int} {a_buffer_bytes : (Int → Int)} {x_keywords_given : Int} {x_keywords_alive : Int} {a_keywords_bytes : (Int → Int)} {a_keywords_lengths : (Int → Int)} {a_keywords_weights : (Int → Int)} {a_keywords_lives : (Int → Int)} {x_mainSet_count : Int} {a_mainSet_members : (Int → Int)} {x_removalSet_count : Int} {a_removalSet_members : (Int → Int)} {x_superstring_slots : Int} {x_superstring_built : Int} {b_superstring_sw : Bool} {a_superstring_starts : (Int → Int)} {a_superstring_lengths : (Int → Int)} {a_superstring_overlaps : (Int → Int)} {x_superstring_area_length : Int} {a_superstring_area_bytes : (Int → Int)} {x_superstring_spare_length : Int} {a_superstring_spare_bytes : (Int → Int)} {x_stream_length : Int} {a_stream_bytes : (Int → Int)} {a_matches_words : (Int → Int)} {x_reports_size : Int} {a_reports_positions : (Int → Int)} {a_reports_numbers : (Int → Int)} {x_chosen_size : Int} {a_chosen_positions : (Int → Int)} {a_chosen_numbers : (Int → Int)} {a_depths : (Int → Int)} {a_bestFrom : (Int → Int)} {pz1 : Int} {r : Int} (hs : s_X7_levelOf x_keywords_given x_mainSet_count a_mainSet_members pz1 = some r) : Met l yX7_levelOf wsX7_levelOf rm_X7_levelOf (PR D vwCl [(cI, .int), (cZ, .boolean), (cJ, .long)] [.ref (ad 0), .int (iI pz1)] (wK cI cZ cJ ad x_work x_rebuilds x_reported x_folding_on x_buffer_length a_buffer_bytes x_keywords_given x_keywords_alive a_keywords_bytes a_keywords_lengths a_keywords_weights a_keywords_lives x_mainSet_count a_mainSet_members x_removalSet_count a_removalSet_members x_superstring_slots x_superstring_built b_superstring_sw a_superstring_starts a_superstring_lengths a_superstring_overlaps x_superstring_area_length a_superstring_area_bytes x_superstring_spare_length a_superstring_spare_bytes x_stream_length a_stream_bytes a_matches_words x_reports_size a_reports_positions a_reports_numbers x_chosen_size a_chosen_positions a_chosen_numbers a_depths a_bestFrom)) (QR (some (.int (iI r)))) 0 0 (fun _ => False) := by
  refine Met.ofW (cc := cX7_levelOf) (maxL := 2) (ret := (some .int)) (by decide) rfl ?_
  intro p e s m args below meth c s₁ B hml hv
  obtain ⟨hav, hP, hK⟩ := hv
  have hx := B.exec
  have hb := B.bytes
  have hr := B.returns
  have hts := atoms_spec (ws := wsX7_levelOf) B.pre
  have hown : s.vm.findClass RX7 = some m.cls := findClass_of_methodNamed B.named
  have hlk := B.notSynchronized
  have hf30 : (Cond.fieldLink RX7 30 "KeywordMatcher" "keywords" "LKeywordMatcher$Keywords;").before args s = true := hts _ (List.mem_of_getElem? (i := 1) rfl)
  have hiX7 : ∀ w ∈ wsX70, w ∈ wsX7_levelOf := fun w h => List.mem_cons_of_mem _ (List.mem_append_left _ (List.mem_append_left _ (List.mem_append_right _ h)))
  have hf37 : (Cond.fieldLink RX7 37 "KeywordMatcher" "mainSet" "LKeywordMatcher$BucketSet;").before args s = true := hts _ (List.mem_of_getElem? (i := 2) rfl)
  have hl := lv_entry ([.ref (ad 0), .int (iI pz1)]) (n := 2) (Nat.le_of_ble_eq_true rfl)
  rw [show entryFrame m args 2 = entryFrame m ([.ref (ad 0), .int (iI pz1)] : List Value).toArray 2 from by rw [hav], lg_entry_eq]
  generalize (lg_sl ([.ref (ad 0), .int (iI pz1)]) ++ List.replicate (2 - (lg_sl ([.ref (ad 0), .int (iI pz1)])).length) Slot.unset).toArray = ls at hl ⊢
  have hl : lv_has ls 2 [(0, .ref (ad 0)), (1, .int (iI pz1))] := hl
  unfold s_X7_levelOf at hs
  refine lv_aload_n hx hb dX7_levelOf_0 rfl (lv_at hl 0 rfl) ?_
  refine va_get (ci := 7) (v := .ref (ad 4)) (C := RX7) (T := TX7) (N := 15) hx hb hts hiX7 hown hK hP 0 rfl rfl 2 (by decide) hf30 (fun _ h9 => h9) rfl dX7_levelOf_1 ?_
  refine lv_iload_n hx hb dX7_levelOf_4 rfl (lv_at hl 1 rfl) ?_
  obtain ⟨vz1, hcz, hs⟩ := bd1_some hs
  have hPc : va_P D vwCl [((ad 4), .inr (3, [.ref (ad 1), .ref (ad 5), .ref (ad 6), .ref (ad 7), .ref (ad 8), .int (iI x_keywords_given), .int (iI x_keywords_alive)])), ((ad 1), .inr (2, [.int (iI x_folding_on)])), ((ad 5), .inl (cI, 1920, .inl (mI a_keywords_bytes))), ((ad 6), .inl (cI, 120, .inl (mI a_keywords_lengths))), ((ad 7), .inl (cI, 120, .inl (mI a_keywords_weights))), ((ad 8), .inl (cZ, 120, .inl (mI a_keywords_lives)))] s.heap := hP.sub [4, 1, 5, 6, 7, 8] rfl
  refine k_rV (As := [.int (iI pz1)]) (rest := []) (st1 := [.int (iI vz1)]) ⟨hx, hb, hml, hown, hts⟩ hK hPc (c_X3_isGiven l D cI cZ cJ hcz) (cwV 1 hts gX7_levelOf_X3_isGiven rfl rfl rfl (by decide +kernel) ⟨Nat.le_of_ble_eq_true rfl, Nat.le_of_ble_eq_true rfl⟩) 0 rfl rfl rfl rfl hl.1 rfl (lv_room (Nat.le_of_ble_eq_true rfl)) dX7_levelOf_5 ⟨Nat.zero_le _, Nat.zero_le _⟩ rfl ?_
  refine k_if_eq (tgt := 22) hx hb hs dX7_levelOf_8 (by decide) (fun hs => ?_) (fun hs => ?_)
  · refine k_bipush (n := (-2)) hx hb (by decide) dX7_levelOf_22 ?_
    cases hs
    exact k_iret_r hx hb hr hlk rfl dX7_levelOf_24 rfl
  · refine lv_aload_n hx hb dX7_levelOf_11 rfl (lv_at hl 0 rfl) ?_
    refine va_get (ci := 7) (v := .ref (ad 9)) (C := RX7) (T := TX7) (N := 15) hx hb hts hiX7 hown hK hP 0 rfl rfl 3 (by decide) hf37 (fun _ h9 => h9) rfl dX7_levelOf_12 ?_
    refine lv_iload_n hx hb dX7_levelOf_15 rfl (lv_at hl 1 rfl) ?_
    obtain ⟨vz2, hcz, hs⟩ := bd1_some hs
    have hPc : va_P D vwCl [((ad 9), .inr (0, [.ref (ad 10), .int (iI x_mainSet_count)])), ((ad 10), .inl (cI, 127, .inl (mI a_mainSet_members)))] s.heap := hP.sub [9, 10] rfl
    refine k_rV (As := [.int (iI pz1)]) (rest := []) (st1 := [.int (iI vz2)]) ⟨hx, hb, hml, hown, hts⟩ hK hPc (c_X0_levelWith l D cI cZ cJ hcz) (cwV 1 hts gX7_levelOf_X0_levelWith rfl rfl rfl (by decide +kernel) ⟨Nat.le_of_ble_eq_true rfl, Nat.le_of_ble_eq_true rfl⟩) 0 rfl rfl rfl rfl hl.1 rfl (lv_room (Nat.le_of_ble_eq_true rfl)) dX7_levelOf_16 ⟨Nat.zero_le _, Nat.zero_le _⟩ rfl ?_
    refine lv_goto (tgt := 24) hx hb dX7_levelOf_19 (by decide) ?_
    cases hs
    exact k_iret_r hx hb hr hlk rfl dX7_levelOf_24 rfl
/-! X7_failureLength -/
set_option maxHeartbeats 4000000 in
set_option maxRecDepth 100000 in
theorem c_X7_failureLength (l : Launch) (D : va_G) (cI cZ cJ : ClassId) {ad : Nat → Nat} {x_work : Int} {x_rebuilds : Int} {x_reported : Int} {x_folding_on : Int} {x_buffer_length : Int} {a_buffer_bytes : (Int → Int)} {x_keywords_given : Int} {x_keywords_alive : Int} {a_keywords_bytes : (Int → Int)} {a_keywords_lengths : (Int → Int)} {a_keywords_weights : (Int → Int)} {a_keywords_lives : (Int → Int)} {x_mainSet_count : Int} {a_mainSet_members : (Int → Int)} {x_removalSet_count : Int} {a_removalSet_members : (Int → Int)} {x_superstring_slots : Int} {x_superstring_built : Int} {b_superstring_sw : Bool} {a_superstring_starts : (Int → Int)} {a_superstring_lengths : (Int → Int)} {a_superstring_overlaps : (Int → Int)} {x_superstring_area_length : Int} {a_superstring_area_bytes : (Int → Int)} {x_superstring_spare_length : Int} {a_superstring_spare_bytes : (Int → Int)} {x_stream_length : Int} {a_stream_bytes : (Int → Int)} {a_matches_words : (Int → Int)} {x_reports_size : Int} {a_reports_positions : (Int → Int)} {a_reports_numbers : (Int → Int)} {x_chosen_size : Int} {a_chosen_positions : (Int → Int)} {a_chosen_numbers : (Int → Int)} {a_depths : (Int → Int)} {a_bestFrom : (Int → Int)} {pz1 : Int} {pz2 : Int} {r : Int} (hs : s_X7_failureLength x_folding_on x_keywords_given a_keywords_bytes a_keywords_lengths x_mainSet_count a_mainSet_members pz1 pz2 = some r) : Met l yX7_failureLength wsX7_failureLength rm_X7_failureLength (PR D vwCl [(cI, .int), (cZ, .boolean), (cJ, .long)] [.ref (ad 0), .int (iI pz1), .int (iI pz2)] (wK cI cZ cJ ad x_work x_rebuilds x_reported x_folding_on x_buffer_length a_buffer_bytes x_keywords_given x_keywords_alive a_keywords_bytes a_keywords_lengths a_keywords_weights a_keywords_lives x_mainSet_count a_mainSet_members x_removalSet_count a_removalSet_members x_superstring_slots x_superstring_built b_superstring_sw a_superstring_starts a_superstring_lengths a_superstring_overlaps x_superstring_area_length a_superstring_area_bytes x_superstring_spare_length a_superstring_spare_bytes x_stream_length a_stream_bytes a_matches_words x_reports_size a_reports_positions a_reports_numbers x_chosen_size a_chosen_positions a_chosen_numbers a_depths a_bestFrom)) (QR (some (.int (iI r)))) 0 0 (fun _ => False) := by
  refine Met.ofW (cc := cX7_failureLength) (maxL := 4) (ret := (some .int)) (by decide) rfl ?_
  intro p e s m args below meth c s₁ B hml hv
  obtain ⟨hav, hP, hK⟩ := hv
  have hx := B.exec
  have hb := B.bytes
  have hr := B.returns
  have hts := atoms_spec (ws := wsX7_failureLength) B.pre
  have hown : s.vm.findClass RX7 = some m.cls := findClass_of_methodNamed B.named
  have hlk := B.notSynchronized
  have hf30 : (Cond.fieldLink RX7 30 "KeywordMatcher" "keywords" "LKeywordMatcher$Keywords;").before args s = true := hts _ (List.mem_of_getElem? (i := 1) rfl)
  have hiX7 : ∀ w ∈ wsX70, w ∈ wsX7_failureLength := fun w h => List.mem_cons_of_mem _ (List.mem_append_left _ (List.mem_append_left _ (List.mem_append_left _ (List.mem_append_right _ h))))
  have hf37 : (Cond.fieldLink RX7 37 "KeywordMatcher" "mainSet" "LKeywordMatcher$BucketSet;").before args s = true := hts _ (List.mem_of_getElem? (i := 2) rfl)
  have hf207 : (Cond.fieldLink RX7 207 "KeywordMatcher$Keywords" "bytes" "[I").before args s = true := hts _ (List.mem_of_getElem? (i := 3) rfl)
  have hiX3 : ∀ w ∈ wsX30, w ∈ wsX7_failureLength := fun w h => List.mem_cons_of_mem _ (List.mem_append_left _ (List.mem_append_left _ (List.mem_append_right _ h)))
  have hl := lv_entry ([.ref (ad 0), .int (iI pz1), .int (iI pz2)]) (n := 4) (Nat.le_of_ble_eq_true rfl)
  rw [show entryFrame m args 4 = entryFrame m ([.ref (ad 0), .int (iI pz1), .int (iI pz2)] : List Value).toArray 4 from by rw [hav], lg_entry_eq]
  generalize (lg_sl ([.ref (ad 0), .int (iI pz1), .int (iI pz2)]) ++ List.replicate (4 - (lg_sl ([.ref (ad 0), .int (iI pz1), .int (iI pz2)])).length) Slot.unset).toArray = ls at hl ⊢
  have hl : lv_has ls 4 [(0, .ref (ad 0)), (1, .int (iI pz1)), (2, .int (iI pz2))] := hl
  unfold s_X7_failureLength at hs
  refine lv_aload_n hx hb dX7_failureLength_0 rfl (lv_at hl 0 rfl) ?_
  refine va_get (ci := 7) (v := .ref (ad 4)) (C := RX7) (T := TX7) (N := 15) hx hb hts hiX7 hown hK hP 0 rfl rfl 2 (by decide) hf30 (fun _ h9 => h9) rfl dX7_failureLength_1 ?_
  refine lv_iload_n hx hb dX7_failureLength_4 rfl (lv_at hl 1 rfl) ?_
  obtain ⟨vz1, hcz, hs⟩ := bd1_some hs
  have hPc : va_P D vwCl [((ad 4), .inr (3, [.ref (ad 1), .ref (ad 5), .ref (ad 6), .ref (ad 7), .ref (ad 8), .int (iI x_keywords_given), .int (iI x_keywords_alive)])), ((ad 1), .inr (2, [.int (iI x_folding_on)])), ((ad 5), .inl (cI, 1920, .inl (mI a_keywords_bytes))), ((ad 6), .inl (cI, 120, .inl (mI a_keywords_lengths))), ((ad 7), .inl (cI, 120, .inl (mI a_keywords_weights))), ((ad 8), .inl (cZ, 120, .inl (mI a_keywords_lives)))] s.heap := hP.sub [4, 1, 5, 6, 7, 8] rfl
  refine k_rV (As := [.int (iI pz1)]) (rest := []) (st1 := [.int (iI vz1)]) ⟨hx, hb, hml, hown, hts⟩ hK hPc (c_X3_isGiven l D cI cZ cJ hcz) (cwV 1 hts gX7_failureLength_X3_isGiven rfl rfl rfl (by decide +kernel) ⟨Nat.le_of_ble_eq_true rfl, Nat.le_of_ble_eq_true rfl⟩) 0 rfl rfl rfl rfl hl.1 rfl (lv_room (Nat.le_of_ble_eq_true rfl)) dX7_failureLength_5 ⟨Nat.zero_le _, Nat.zero_le _⟩ rfl ?_
  refine k_if_ne (tgt := 14) hx hb hs dX7_failureLength_8 (by decide) (fun hs => ?_) (fun hs => ?_)
  · refine k_bipush (n := (-2)) hx hb (by decide) dX7_failureLength_11 ?_
    cases hs
    exact k_iret_r hx hb hr hlk rfl dX7_failureLength_13 rfl
  · refine lv_iload_n hx hb dX7_failureLength_14 rfl (lv_at hl 2 rfl) ?_
    refine k_iconst (n := 1) hx hb dX7_failureLength_15 ?_
    refine k_icmp_lt (tgt := 31) hx hb hs dX7_failureLength_16 (by decide) (fun hs => ?_) (fun hs => ?_)
    · refine k_bipush (n := (-3)) hx hb (by decide) dX7_failureLength_31 ?_
      cases hs
      exact k_iret_r hx hb hr hlk rfl dX7_failureLength_33 rfl
    · refine lv_iload_n hx hb dX7_failureLength_19 rfl (lv_at hl 2 rfl) ?_
      refine lv_aload_n hx hb dX7_failureLength_20 rfl (lv_at hl 0 rfl) ?_
      refine va_get (ci := 7) (v := .ref (ad 4)) (C := RX7) (T := TX7) (N := 15) hx hb hts hiX7 hown hK hP 0 rfl rfl 2 (by decide) hf30 (fun _ h9 => h9) rfl dX7_failureLength_21 ?_
      refine lv_iload_n hx hb dX7_failureLength_24 rfl (lv_at hl 1 rfl) ?_
      obtain ⟨vz2, hcz, hs⟩ := bd1_some hs
      have hPc : va_P D vwCl [((ad 4), .inr (3, [.ref (ad 1), .ref (ad 5), .ref (ad 6), .ref (ad 7), .ref (ad 8), .int (iI x_keywords_given), .int (iI x_keywords_alive)])), ((ad 1), .inr (2, [.int (iI x_folding_on)])), ((ad 5), .inl (cI, 1920, .inl (mI a_keywords_bytes))), ((ad 6), .inl (cI, 120, .inl (mI a_keywords_lengths))), ((ad 7), .inl (cI, 120, .inl (mI a_keywords_weights))), ((ad 8), .inl (cZ, 120, .inl (mI a_keywords_lives)))] s.heap := hP.sub [4, 1, 5, 6, 7, 8] rfl
      refine k_rV (As := [.int (iI pz1)]) (rest := [.int (iI pz2)]) (st1 := [.int (iI vz2), .int (iI pz2)]) ⟨hx, hb, hml, hown, hts⟩ hK hPc (c_X3_lengthOf l D cI cZ cJ hcz) (cwV 1 hts gX7_failureLength_X3_lengthOf rfl rfl rfl (by decide +kernel) ⟨Nat.le_of_ble_eq_true rfl, Nat.le_of_ble_eq_true rfl⟩) 0 rfl rfl rfl rfl hl.1 rfl (lv_room (Nat.le_of_ble_eq_true rfl)) dX7_failureLength_25 ⟨Nat.zero_le _, Nat.zero_le _⟩ rfl ?_
      refine k_icmp_le (tgt := 34) hx hb hs dX7_failureLength_28 (by decide) (fun hs => ?_) (fun hs => ?_)
      · refine k_bipush (n := (-3)) hx hb (by decide) dX7_failureLength_31 ?_
        cases hs
        exact k_iret_r hx hb hr hlk rfl dX7_failureLength_33 rfl
      · refine lv_aload_n hx hb dX7_failureLength_34 rfl (lv_at hl 0 rfl) ?_
        refine va_get (ci := 7) (v := .ref (ad 9)) (C := RX7) (T := TX7) (N := 15) hx hb hts hiX7 hown hK hP 0 rfl rfl 3 (by decide) hf37 (fun _ h9 => h9) rfl dX7_failureLength_35 ?_
        refine lv_iload_n hx hb dX7_failureLength_38 rfl (lv_at hl 1 rfl) ?_
        obtain ⟨vz3, hcz, hs⟩ := bd1_some hs
        have hPc : va_P D vwCl [((ad 9), .inr (0, [.ref (ad 10), .int (iI x_mainSet_count)])), ((ad 10), .inl (cI, 127, .inl (mI a_mainSet_members)))] s.heap := hP.sub [9, 10] rfl
        refine k_rV (As := [.int (iI pz1)]) (rest := []) (st1 := [.int (iI vz3)]) ⟨hx, hb, hml, hown, hts⟩ hK hPc (c_X0_levelWith l D cI cZ cJ hcz) (cwV 1 hts gX7_failureLength_X0_levelWith rfl rfl rfl (by decide +kernel) ⟨Nat.le_of_ble_eq_true rfl, Nat.le_of_ble_eq_true rfl⟩) 0 rfl rfl rfl rfl hl.1 rfl (lv_room (Nat.le_of_ble_eq_true rfl)) dX7_failureLength_39 ⟨Nat.zero_le _, Nat.zero_le _⟩ rfl ?_
        refine lv_istore_n (lv' := [(3, .int (iI vz3)), (0, .ref (ad 0)), (1, .int (iI pz1)), (2, .int (iI pz2))]) hx hb dX7_failureLength_42 rfl hl (by decide) rfl (fun ls hl => ?_)
        refine lv_iload_n hx hb dX7_failureLength_43 rfl (lv_at hl 0 rfl) ?_
        refine k_iconst (n := (-1)) hx hb dX7_failureLength_44 ?_
        refine k_icmp_ne (tgt := 50) hx hb hs dX7_failureLength_45 (by decide) (fun hs => ?_) (fun hs => ?_)
        · refine k_iconst (n := (-1)) hx hb dX7_failureLength_48 ?_
          cases hs
          exact k_iret_r hx hb hr hlk rfl dX7_failureLength_49 rfl
        · refine lv_aload_n hx hb dX7_failureLength_50 rfl (lv_at hl 1 rfl) ?_
          refine lv_iload_n hx hb dX7_failureLength_51 rfl (lv_at hl 0 rfl) ?_
          refine lv_aload_n hx hb dX7_failureLength_52 rfl (lv_at hl 1 rfl) ?_
          refine va_get (ci := 7) (v := .ref (ad 4)) (C := RX7) (T := TX7) (N := 15) hx hb hts hiX7 hown hK hP 0 rfl rfl 2 (by decide) hf30 (fun _ h9 => h9) rfl dX7_failureLength_53 ?_
          refine va_get (ci := 3) (v := .ref (ad 5)) (C := RX3) (T := TX3) (N := 7) hx hb hts hiX3 hown hK hP 4 rfl rfl 1 (by decide) hf207 (fun _ h9 => h9) rfl dX7_failureLength_56 ?_
          refine lv_aload_n hx hb dX7_failureLength_59 rfl (lv_at hl 1 rfl) ?_
          refine va_get (ci := 7) (v := .ref (ad 4)) (C := RX7) (T := TX7) (N := 15) hx hb hts hiX7 hown hK hP 0 rfl rfl 2 (by decide) hf30 (fun _ h9 => h9) rfl dX7_failureLength_60 ?_
          refine lv_iload_n hx hb dX7_failureLength_63 rfl (lv_at hl 2 rfl) ?_
          obtain ⟨vz4, hcz, hs⟩ := bd1_some hs
          have hPc : va_P D vwCl [((ad 4), .inr (3, [.ref (ad 1), .ref (ad 5), .ref (ad 6), .ref (ad 7), .ref (ad 8), .int (iI x_keywords_given), .int (iI x_keywords_alive)])), ((ad 1), .inr (2, [.int (iI x_folding_on)])), ((ad 5), .inl (cI, 1920, .inl (mI a_keywords_bytes))), ((ad 6), .inl (cI, 120, .inl (mI a_keywords_lengths))), ((ad 7), .inl (cI, 120, .inl (mI a_keywords_weights))), ((ad 8), .inl (cZ, 120, .inl (mI a_keywords_lives)))] s.heap := hP.sub [4, 1, 5, 6, 7, 8] rfl
          refine k_rV (As := [.int (iI pz1)]) (rest := [.ref (ad 5), .int (iI vz3), .ref (ad 0)]) (st1 := [.int (iI vz4), .ref (ad 5), .int (iI vz3), .ref (ad 0)]) ⟨hx, hb, hml, hown, hts⟩ hK hPc (c_X3_firstByteOf l D cI cZ cJ hcz) (cwV 1 hts gX7_failureLength_X3_firstByteOf rfl rfl rfl (by decide +kernel) ⟨Nat.le_of_ble_eq_true rfl, Nat.le_of_ble_eq_true rfl⟩) 0 rfl rfl rfl rfl hl.1 rfl (lv_room (Nat.le_of_ble_eq_true rfl)) dX7_failureLength_64 ⟨Nat.zero_le _, Nat.zero_le _⟩ rfl ?_
          refine lv_iload_n hx hb dX7_failureLength_67 rfl (lv_at hl 3 rfl) ?_
          refine k_iadd hx hb dX7_failureLength_68 ?_
          refine lv_iload_n hx hb dX7_failureLength_69 rfl (lv_at hl 3 rfl) ?_
          refine k_iconst (n := 1) hx hb dX7_failureLength_70 ?_
          refine k_isub hx hb dX7_failureLength_71 ?_
          obtain ⟨vz5, hcz, hs⟩ := bd1_some hs
          have hPc : va_P D vwCl ((wK cI cZ cJ ad x_work x_rebuilds x_reported x_folding_on x_buffer_length a_buffer_bytes x_keywords_given x_keywords_alive a_keywords_bytes a_keywords_lengths a_keywords_weights a_keywords_lives x_mainSet_count a_mainSet_members x_removalSet_count a_removalSet_members x_superstring_slots x_superstring_built b_superstring_sw a_superstring_starts a_superstring_lengths a_superstring_overlaps x_superstring_area_length a_superstring_area_bytes x_superstring_spare_length a_superstring_spare_bytes x_stream_length a_stream_bytes a_matches_words x_reports_size a_reports_positions a_reports_numbers x_chosen_size a_chosen_positions a_chosen_numbers a_depths a_bestFrom) ++ [((ad 5), .inl (cI, 1920, .inl (mI a_keywords_bytes)))]) s.heap := hP.sub [0, 1, 2, 3, 4, 5, 6, 7, 8, 9, 10, 11, 12, 13, 14, 15, 16, 17, 18, 19, 20, 21, 22, 23, 24, 25, 26, 27, 28, 29, 30, 31, 32, 5] rfl
          refine k_rV (As := [.int (iI vz3), .ref (ad 5), .int (iI (vz4 + pz2)), .int (iI (pz2 - 1))]) (rest := []) (st1 := [.int (iI vz5)]) ⟨hx, hb, hml, hown, hts⟩ hK hPc (c_X7_longestPrefixBefore l D cI cZ cJ (Nat.le_of_ble_eq_true rfl) hcz) (cwV 4 hts gX7_failureLength_X7_longestPrefixBefore rfl rfl rfl (by decide +kernel) ⟨Nat.le_of_ble_eq_true rfl, Nat.le_of_ble_eq_true rfl⟩) 0 rfl rfl rfl rfl hl.1 rfl (lv_room (Nat.le_of_ble_eq_true rfl)) dX7_failureLength_72 ⟨Nat.zero_le _, Nat.zero_le _⟩ rfl ?_
          cases hs
          exact k_iret_r hx hb hr hlk rfl dX7_failureLength_75 rfl
/-! X7_buildWork -/
set_option maxHeartbeats 4000000 in
set_option maxRecDepth 100000 in
theorem c_X7_buildWork (l : Launch) (D : va_G) (cI cZ cJ : ClassId) {ad : Nat → Nat} {x_work : Int} {x_rebuilds : Int} {x_reported : Int} {x_folding_on : Int} {x_buffer_length : Int} {a_buffer_bytes : (Int → Int)} {x_keywords_given : Int} {x_keywords_alive : Int} {a_keywords_bytes : (Int → Int)} {a_keywords_lengths : (Int → Int)} {a_keywords_weights : (Int → Int)} {a_keywords_lives : (Int → Int)} {x_mainSet_count : Int} {a_mainSet_members : (Int → Int)} {x_removalSet_count : Int} {a_removalSet_members : (Int → Int)} {x_superstring_slots : Int} {x_superstring_built : Int} {b_superstring_sw : Bool} {a_superstring_starts : (Int → Int)} {a_superstring_lengths : (Int → Int)} {a_superstring_overlaps : (Int → Int)} {x_superstring_area_length : Int} {a_superstring_area_bytes : (Int → Int)} {x_superstring_spare_length : Int} {a_superstring_spare_bytes : (Int → Int)} {x_stream_length : Int} {a_stream_bytes : (Int → Int)} {a_matches_words : (Int → Int)} {x_reports_size : Int} {a_reports_positions : (Int → Int)} {a_reports_numbers : (Int → Int)} {x_chosen_size : Int} {a_chosen_positions : (Int → Int)} {a_chosen_numbers : (Int → Int)} {a_depths : (Int → Int)} {a_bestFrom : (Int → Int)} {r : Int} (hs : s_X7_buildWork x_work = some r) : Met l yX7_buildWork wsX7_buildWork rm_X7_buildWork (PR D vwCl [(cI, .int), (cZ, .boolean), (cJ, .long)] [.ref (ad 0)] (wK cI cZ cJ ad x_work x_rebuilds x_reported x_folding_on x_buffer_length a_buffer_bytes x_keywords_given x_keywords_alive a_keywords_bytes a_keywords_lengths a_keywords_weights a_keywords_lives x_mainSet_count a_mainSet_members x_removalSet_count a_removalSet_members x_superstring_slots x_superstring_built b_superstring_sw a_superstring_starts a_superstring_lengths a_superstring_overlaps x_superstring_area_length a_superstring_area_bytes x_superstring_spare_length a_superstring_spare_bytes x_stream_length a_stream_bytes a_matches_words x_reports_size a_reports_positions a_reports_numbers x_chosen_size a_chosen_positions a_chosen_numbers a_depths a_bestFrom)) (QR (some (.int (iI r)))) 0 0 (fun _ => False) := by
  refine Met.ofW (cc := cX7_buildWork) (maxL := 1) (ret := (some .int)) (by decide) rfl ?_
  intro p e s m args below meth c s₁ B hml hv
  obtain ⟨hav, hP, hK⟩ := hv
  have hx := B.exec
  have hb := B.bytes
  have hr := B.returns
  have hts := atoms_spec (ws := wsX7_buildWork) B.pre
  have hown : s.vm.findClass RX7 = some m.cls := findClass_of_methodNamed B.named
  have hlk := B.notSynchronized
  have hf79 : (Cond.fieldLink RX7 79 "KeywordMatcher" "work" "I").before args s = true := hts _ (List.mem_of_getElem? (i := 1) rfl)
  have hiX7 : ∀ w ∈ wsX70, w ∈ wsX7_buildWork := fun w h => List.mem_cons_of_mem _ (List.mem_append_right _ h)
  have hl := lv_entry ([.ref (ad 0)]) (n := 1) (Nat.le_of_ble_eq_true rfl)
  rw [show entryFrame m args 1 = entryFrame m ([.ref (ad 0)] : List Value).toArray 1 from by rw [hav], lg_entry_eq]
  generalize (lg_sl ([.ref (ad 0)]) ++ List.replicate (1 - (lg_sl ([.ref (ad 0)])).length) Slot.unset).toArray = ls at hl ⊢
  have hl : lv_has ls 1 [(0, .ref (ad 0))] := hl
  unfold s_X7_buildWork at hs
  refine lv_aload_n hx hb dX7_buildWork_0 rfl (lv_at hl 0 rfl) ?_
  refine va_get (ci := 7) (v := .int (iI x_work)) (C := RX7) (T := TX7) (N := 15) hx hb hts hiX7 hown hK hP 0 rfl rfl 12 (by decide) hf79 (fun _ h9 => h9) rfl dX7_buildWork_1 ?_
  cases hs
  exact k_iret_r hx hb hr hlk rfl dX7_buildWork_4 rfl
/-! X7_plannedWork -/
set_option maxHeartbeats 4000000 in
set_option maxRecDepth 100000 in
theorem c_X7_plannedWork (l : Launch) (D : va_G) (cI cZ cJ : ClassId) {ad : Nat → Nat} {x_work : Int} {x_rebuilds : Int} {x_reported : Int} {x_folding_on : Int} {x_buffer_length : Int} {a_buffer_bytes : (Int → Int)} {x_keywords_given : Int} {x_keywords_alive : Int} {a_keywords_bytes : (Int → Int)} {a_keywords_lengths : (Int → Int)} {a_keywords_weights : (Int → Int)} {a_keywords_lives : (Int → Int)} {x_mainSet_count : Int} {a_mainSet_members : (Int → Int)} {x_removalSet_count : Int} {a_removalSet_members : (Int → Int)} {x_superstring_slots : Int} {x_superstring_built : Int} {b_superstring_sw : Bool} {a_superstring_starts : (Int → Int)} {a_superstring_lengths : (Int → Int)} {a_superstring_overlaps : (Int → Int)} {x_superstring_area_length : Int} {a_superstring_area_bytes : (Int → Int)} {x_superstring_spare_length : Int} {a_superstring_spare_bytes : (Int → Int)} {x_stream_length : Int} {a_stream_bytes : (Int → Int)} {a_matches_words : (Int → Int)} {x_reports_size : Int} {a_reports_positions : (Int → Int)} {a_reports_numbers : (Int → Int)} {x_chosen_size : Int} {a_chosen_positions : (Int → Int)} {a_chosen_numbers : (Int → Int)} {a_depths : (Int → Int)} {a_bestFrom : (Int → Int)} {pz1 : Int} {r : Int} (hs : s_X7_plannedWork x_mainSet_count pz1 = some r) : Met l yX7_plannedWork wsX7_plannedWork rm_X7_plannedWork (PR D vwCl [(cI, .int), (cZ, .boolean), (cJ, .long)] [.ref (ad 0), .int (iI pz1)] (wK cI cZ cJ ad x_work x_rebuilds x_reported x_folding_on x_buffer_length a_buffer_bytes x_keywords_given x_keywords_alive a_keywords_bytes a_keywords_lengths a_keywords_weights a_keywords_lives x_mainSet_count a_mainSet_members x_removalSet_count a_removalSet_members x_superstring_slots x_superstring_built b_superstring_sw a_superstring_starts a_superstring_lengths a_superstring_overlaps x_superstring_area_length a_superstring_area_bytes x_superstring_spare_length a_superstring_spare_bytes x_stream_length a_stream_bytes a_matches_words x_reports_size a_reports_positions a_reports_numbers x_chosen_size a_chosen_positions a_chosen_numbers a_depths a_bestFrom)) (QR (some (.int (iI r)))) 0 0 (fun _ => False) := by
  refine Met.ofW (cc := cX7_plannedWork) (maxL := 4) (ret := (some .int)) (by decide) rfl ?_
  intro p e s m args below meth c s₁ B hml hv
  obtain ⟨hav, hP, hK⟩ := hv
  have hx := B.exec
  have hb := B.bytes
  have hr := B.returns
  have hts := atoms_spec (ws := wsX7_plannedWork) B.pre
  have hown : s.vm.findClass RX7 = some m.cls := findClass_of_methodNamed B.named
  have hlk := B.notSynchronized
  have hf37 : (Cond.fieldLink RX7 37 "KeywordMatcher" "mainSet" "LKeywordMatcher$BucketSet;").before args s = true := hts _ (List.mem_of_getElem? (i := 1) rfl)
  have hiX7 : ∀ w ∈ wsX70, w ∈ wsX7_plannedWork := fun w h => List.mem_cons_of_mem _ (List.mem_append_left _ (List.mem_append_right _ h))
  have hf147 : (Cond.fieldLink RX7 147 "KeywordMatcher$BucketSet" "count" "I").before args s = true := hts _ (List.mem_of_getElem? (i := 2) rfl)
  have hiX0 : ∀ w ∈ wsX00, w ∈ wsX7_plannedWork := fun w h => List.mem_cons_of_mem _ (List.mem_append_right _ h)
  have hl := lv_entry ([.ref (ad 0), .int (iI pz1)]) (n := 4) (Nat.le_of_ble_eq_true rfl)
  rw [show entryFrame m args 4 = entryFrame m ([.ref (ad 0), .int (iI pz1)] : List Value).toArray 4 from by rw [hav], lg_entry_eq]
  generalize (lg_sl ([.ref (ad 0), .int (iI pz1)]) ++ List.replicate (4 - (lg_sl ([.ref (ad 0), .int (iI pz1)])).length) Slot.unset).toArray = ls at hl ⊢
  have hl : lv_has ls 4 [(0, .ref (ad 0)), (1, .int (iI pz1))] := hl
  unfold s_X7_plannedWork at hs
  have Lz17 : ∀ (fu : Nat) (l1 : Int) (l2 : Int) (l3 : Int) (y0 : Int), s_X7_plannedWork_17 fu x_mainSet_count l1 l2 l3 = some y0 → ∀ ls : Array Slot, lv_has ls 4 [(0, .ref (ad 0)), (1, .int (iI l1)), (2, .int (iI l2)), (3, .int (iI l3))] → (∀ ls : Array Slot, lv_has ls 4 [(2, .int (iI y0))] → W p l e (headSpec wsX7_plannedWork rm_X7_plannedWork).room s m args below meth c s.heap [] 0 0 (MQ below (QR (some (.int (iI r)))) args s 0 0 (fun _ => False)) (F0 m 43 ls [])) → W p l e (headSpec wsX7_plannedWork rm_X7_plannedWork).room s m args below meth c s.heap [] 0 0 (MQ below (QR (some (.int (iI r)))) args s 0 0 (fun _ => False)) (F0 m 17 ls []) := by
    intro fu
    induction fu with
    | zero => intro l1 l2 l3 y0 hs; cases hs
    | succ fu ih =>
      intro l1 l2 l3 y0 hs ls hl kx
      rw [s_X7_plannedWork_17_s] at hs
      refine lv_iload_n hx hb dX7_plannedWork_17 rfl (lv_at hl 3 rfl) ?_
      refine lv_iload_n hx hb dX7_plannedWork_18 rfl (lv_at hl 1 rfl) ?_
      refine k_icmp_gt (tgt := 43) hx hb hs dX7_plannedWork_19 (by decide) (fun hs => ?_) (fun hs => ?_)
      · cases hs
        exact kx ls (lv_sub hl [2] rfl)
      · refine lv_iload_n hx hb dX7_plannedWork_22 rfl (lv_at hl 2 rfl) ?_
        refine lv_aload_n hx hb dX7_plannedWork_23 rfl (lv_at hl 0 rfl) ?_
        refine va_get (ci := 7) (v := .ref (ad 9)) (C := RX7) (T := TX7) (N := 15) hx hb hts hiX7 hown hK hP 0 rfl rfl 3 (by decide) hf37 (fun _ h9 => h9) rfl dX7_plannedWork_24 ?_
        refine va_get (ci := 0) (v := .int (iI x_mainSet_count)) (C := RX0) (T := TX0) (N := 2) hx hb hts hiX0 hown hK hP 9 rfl rfl 1 (by decide) hf147 (fun _ h9 => h9) rfl dX7_plannedWork_27 ?_
        refine lv_iload_n hx hb dX7_plannedWork_30 rfl (lv_at hl 3 rfl) ?_
        refine k_iadd hx hb dX7_plannedWork_31 ?_
        obtain ⟨vz1, hcz, hs⟩ := bd1_some hs
        refine k_rS (As := [.int (iI (x_mainSet_count + l3))]) (rest := [.int (iI l2)]) (st1 := [.int (iI vz1), .int (iI l2)]) ⟨hx, hb, hml, hown, hts⟩ hK (va_P_nil (D := D) (cl := vwCl)) (c_X0_storedSize l D cI cZ cJ hcz) (va_cwS 1 hts gX7_plannedWork_X0_storedSize rfl rfl rfl (by decide +kernel) ⟨Nat.le_of_ble_eq_true rfl, Nat.le_of_ble_eq_true rfl⟩) rfl hl.1 rfl (lv_room (Nat.le_of_ble_eq_true rfl)) dX7_plannedWork_32 ⟨Nat.zero_le _, Nat.zero_le _⟩ rfl ?_
        refine k_iadd hx hb dX7_plannedWork_35 ?_
        refine lv_istore_n (lv' := [(2, .int (iI (l2 + vz1))), (0, .ref (ad 0)), (1, .int (iI l1)), (3, .int (iI l3))]) hx hb dX7_plannedWork_36 rfl hl (by decide) rfl (fun ls hl => ?_)
        refine k_iinc (x := l3) (k := 3) (lv' := [(3, .int (iI (l3 + 1))), (2, .int (iI (l2 + vz1))), (0, .ref (ad 0)), (1, .int (iI l1))]) hx hb dX7_plannedWork_37 hl rfl (by decide) rfl (fun ls hl => ?_)
        refine lv_goto (tgt := 17) hx hb dX7_plannedWork_40 (by decide) ?_
        exact ih l1 (l2 + vz1) (l3 + 1) y0 hs ls (lv_sub hl [2, 3, 1, 0] rfl) kx
  refine lv_iload_n hx hb dX7_plannedWork_0 rfl (lv_at hl 1 rfl) ?_
  refine k_if_lt (tgt := 10) hx hb hs dX7_plannedWork_1 (by decide) (fun hs => ?_) (fun hs => ?_)
  · refine k_bipush (n := (-3)) hx hb (by decide) dX7_plannedWork_10 ?_
    cases hs
    exact k_iret_r hx hb hr hlk rfl dX7_plannedWork_12 rfl
  · refine lv_iload_n hx hb dX7_plannedWork_4 rfl (lv_at hl 1 rfl) ?_
    refine k_bipush (n := 40) hx hb (by decide) dX7_plannedWork_5 ?_
    refine k_icmp_le (tgt := 13) hx hb hs dX7_plannedWork_7 (by decide) (fun hs => ?_) (fun hs => ?_)
    · refine k_bipush (n := (-3)) hx hb (by decide) dX7_plannedWork_10 ?_
      cases hs
      exact k_iret_r hx hb hr hlk rfl dX7_plannedWork_12 rfl
    · refine k_iconst (n := 0) hx hb dX7_plannedWork_13 ?_
      refine lv_istore_n (lv' := [(2, .int (iI 0)), (0, .ref (ad 0)), (1, .int (iI pz1))]) hx hb dX7_plannedWork_14 rfl hl (by decide) rfl (fun ls hl => ?_)
      refine k_iconst (n := 1) hx hb dX7_plannedWork_15 ?_
      refine lv_istore_n (lv' := [(3, .int (iI 1)), (2, .int (iI 0)), (0, .ref (ad 0)), (1, .int (iI pz1))]) hx hb dX7_plannedWork_16 rfl hl (by decide) rfl (fun ls hl => ?_)
      obtain ⟨ez2, hq, hs⟩ := bd1_some hs
      refine Lz17 FU pz1 0 1 ez2 hq ls (lv_sub hl [2, 3, 1, 0] rfl) ?_
      intro ls hl
      refine lv_iload_n hx hb dX7_plannedWork_43 rfl (lv_at hl 0 rfl) ?_
      cases hs
      exact k_iret_r hx hb hr hlk rfl dX7_plannedWork_44 rfl
/-! X7_rebuildCount -/
set_option maxHeartbeats 4000000 in
set_option maxRecDepth 100000 in
theorem c_X7_rebuildCount (l : Launch) (D : va_G) (cI cZ cJ : ClassId) {ad : Nat → Nat} {x_work : Int} {x_rebuilds : Int} {x_reported : Int} {x_folding_on : Int} {x_buffer_length : Int} {a_buffer_bytes : (Int → Int)} {x_keywords_given : Int} {x_keywords_alive : Int} {a_keywords_bytes : (Int → Int)} {a_keywords_lengths : (Int → Int)} {a_keywords_weights : (Int → Int)} {a_keywords_lives : (Int → Int)} {x_mainSet_count : Int} {a_mainSet_members : (Int → Int)} {x_removalSet_count : Int} {a_removalSet_members : (Int → Int)} {x_superstring_slots : Int} {x_superstring_built : Int} {b_superstring_sw : Bool} {a_superstring_starts : (Int → Int)} {a_superstring_lengths : (Int → Int)} {a_superstring_overlaps : (Int → Int)} {x_superstring_area_length : Int} {a_superstring_area_bytes : (Int → Int)} {x_superstring_spare_length : Int} {a_superstring_spare_bytes : (Int → Int)} {x_stream_length : Int} {a_stream_bytes : (Int → Int)} {a_matches_words : (Int → Int)} {x_reports_size : Int} {a_reports_positions : (Int → Int)} {a_reports_numbers : (Int → Int)} {x_chosen_size : Int} {a_chosen_positions : (Int → Int)} {a_chosen_numbers : (Int → Int)} {a_depths : (Int → Int)} {a_bestFrom : (Int → Int)} {r : Int} (hs : s_X7_rebuildCount x_rebuilds = some r) : Met l yX7_rebuildCount wsX7_rebuildCount rm_X7_rebuildCount (PR D vwCl [(cI, .int), (cZ, .boolean), (cJ, .long)] [.ref (ad 0)] (wK cI cZ cJ ad x_work x_rebuilds x_reported x_folding_on x_buffer_length a_buffer_bytes x_keywords_given x_keywords_alive a_keywords_bytes a_keywords_lengths a_keywords_weights a_keywords_lives x_mainSet_count a_mainSet_members x_removalSet_count a_removalSet_members x_superstring_slots x_superstring_built b_superstring_sw a_superstring_starts a_superstring_lengths a_superstring_overlaps x_superstring_area_length a_superstring_area_bytes x_superstring_spare_length a_superstring_spare_bytes x_stream_length a_stream_bytes a_matches_words x_reports_size a_reports_positions a_reports_numbers x_chosen_size a_chosen_positions a_chosen_numbers a_depths a_bestFrom)) (QR (some (.int (iI r)))) 0 0 (fun _ => False) := by
  refine Met.ofW (cc := cX7_rebuildCount) (maxL := 1) (ret := (some .int)) (by decide) rfl ?_
  intro p e s m args below meth c s₁ B hml hv
  obtain ⟨hav, hP, hK⟩ := hv
  have hx := B.exec
  have hb := B.bytes
  have hr := B.returns
  have hts := atoms_spec (ws := wsX7_rebuildCount) B.pre
  have hown : s.vm.findClass RX7 = some m.cls := findClass_of_methodNamed B.named
  have hlk := B.notSynchronized
  have hf83 : (Cond.fieldLink RX7 83 "KeywordMatcher" "rebuilds" "I").before args s = true := hts _ (List.mem_of_getElem? (i := 1) rfl)
  have hiX7 : ∀ w ∈ wsX70, w ∈ wsX7_rebuildCount := fun w h => List.mem_cons_of_mem _ (List.mem_append_right _ h)
  have hl := lv_entry ([.ref (ad 0)]) (n := 1) (Nat.le_of_ble_eq_true rfl)
  rw [show entryFrame m args 1 = entryFrame m ([.ref (ad 0)] : List Value).toArray 1 from by rw [hav], lg_entry_eq]
  generalize (lg_sl ([.ref (ad 0)]) ++ List.replicate (1 - (lg_sl ([.ref (ad 0)])).length) Slot.unset).toArray = ls at hl ⊢
  have hl : lv_has ls 1 [(0, .ref (ad 0))] := hl
  unfold s_X7_rebuildCount at hs
  refine lv_aload_n hx hb dX7_rebuildCount_0 rfl (lv_at hl 0 rfl) ?_
  refine va_get (ci := 7) (v := .int (iI x_rebuilds)) (C := RX7) (T := TX7) (N := 15) hx hb hts hiX7 hown hK hP 0 rfl rfl 13 (by decide) hf83 (fun _ h9 => h9) rfl dX7_rebuildCount_1 ?_
  cases hs
  exact k_iret_r hx hb hr hlk rfl dX7_rebuildCount_4 rfl
/-! X7_noteMatchesAtEnd -/
set_option maxHeartbeats 4000000 in
set_option maxRecDepth 100000 in
theorem c_X7_noteMatchesAtEnd (l : Launch) (D : va_G) (cI cZ cJ : ClassId) {ad : Nat → Nat} {x_work : Int} {x_rebuilds : Int} {x_reported : Int} {x_folding_on : Int} {x_buffer_length : Int} {a_buffer_bytes : (Int → Int)} {x_keywords_given : Int} {x_keywords_alive : Int} {a_keywords_bytes : (Int → Int)} {a_keywords_lengths : (Int → Int)} {a_keywords_weights : (Int → Int)} {a_keywords_lives : (Int → Int)} {x_mainSet_count : Int} {a_mainSet_members : (Int → Int)} {x_removalSet_count : Int} {a_removalSet_members : (Int → Int)} {x_superstring_slots : Int} {x_superstring_built : Int} {b_superstring_sw : Bool} {a_superstring_starts : (Int → Int)} {a_superstring_lengths : (Int → Int)} {a_superstring_overlaps : (Int → Int)} {x_superstring_area_length : Int} {a_superstring_area_bytes : (Int → Int)} {x_superstring_spare_length : Int} {a_superstring_spare_bytes : (Int → Int)} {x_stream_length : Int} {a_stream_bytes : (Int → Int)} {a_matches_words : (Int → Int)} {x_reports_size : Int} {a_reports_positions : (Int → Int)} {a_reports_numbers : (Int → Int)} {x_chosen_size : Int} {a_chosen_positions : (Int → Int)} {a_chosen_numbers : (Int → Int)} {a_depths : (Int → Int)} {a_bestFrom : (Int → Int)} {y_a_matches_words : (Int → Int)} {sz : Nat} (hs : s_X7_noteMatchesAtEnd x_folding_on x_keywords_given a_keywords_bytes a_keywords_lengths a_keywords_lives x_stream_length a_stream_bytes a_matches_words = some y_a_matches_words) : Met l yX7_noteMatchesAtEnd wsX7_noteMatchesAtEnd rm_X7_noteMatchesAtEnd (PW D vwCl [(cI, .int), (cZ, .boolean), (cJ, .long)] [.ref (ad 0)] (wK cI cZ cJ ad x_work x_rebuilds x_reported x_folding_on x_buffer_length a_buffer_bytes x_keywords_given x_keywords_alive a_keywords_bytes a_keywords_lengths a_keywords_weights a_keywords_lives x_mainSet_count a_mainSet_members x_removalSet_count a_removalSet_members x_superstring_slots x_superstring_built b_superstring_sw a_superstring_starts a_superstring_lengths a_superstring_overlaps x_superstring_area_length a_superstring_area_bytes x_superstring_spare_length a_superstring_spare_bytes x_stream_length a_stream_bytes a_matches_words x_reports_size a_reports_positions a_reports_numbers x_chosen_size a_chosen_positions a_chosen_numbers a_depths a_bestFrom) sz) (QW D vwCl none (wK cI cZ cJ ad x_work x_rebuilds x_reported x_folding_on x_buffer_length a_buffer_bytes x_keywords_given x_keywords_alive a_keywords_bytes a_keywords_lengths a_keywords_weights a_keywords_lives x_mainSet_count a_mainSet_members x_removalSet_count a_removalSet_members x_superstring_slots x_superstring_built b_superstring_sw a_superstring_starts a_superstring_lengths a_superstring_overlaps x_superstring_area_length a_superstring_area_bytes x_superstring_spare_length a_superstring_spare_bytes x_stream_length a_stream_bytes y_a_matches_words x_reports_size a_reports_positions a_reports_numbers x_chosen_size a_chosen_positions a_chosen_numbers a_depths a_bestFrom) (va_A (wK cI cZ cJ ad x_work x_rebuilds x_reported x_folding_on x_buffer_length a_buffer_bytes x_keywords_given x_keywords_alive a_keywords_bytes a_keywords_lengths a_keywords_weights a_keywords_lives x_mainSet_count a_mainSet_members x_removalSet_count a_removalSet_members x_superstring_slots x_superstring_built b_superstring_sw a_superstring_starts a_superstring_lengths a_superstring_overlaps x_superstring_area_length a_superstring_area_bytes x_superstring_spare_length a_superstring_spare_bytes x_stream_length a_stream_bytes a_matches_words x_reports_size a_reports_positions a_reports_numbers x_chosen_size a_chosen_positions a_chosen_numbers a_depths a_bestFrom) sz)) 0 0 (va_A (wK cI cZ cJ ad x_work x_rebuilds x_reported x_folding_on x_buffer_length a_buffer_bytes x_keywords_given x_keywords_alive a_keywords_bytes a_keywords_lengths a_keywords_weights a_keywords_lives x_mainSet_count a_mainSet_members x_removalSet_count a_removalSet_members x_superstring_slots x_superstring_built b_superstring_sw a_superstring_starts a_superstring_lengths a_superstring_overlaps x_superstring_area_length a_superstring_area_bytes x_superstring_spare_length a_superstring_spare_bytes x_stream_length a_stream_bytes a_matches_words x_reports_size a_reports_positions a_reports_numbers x_chosen_size a_chosen_positions a_chosen_numbers a_depths a_bestFrom) sz) := by
  refine Met.ofW (cc := cX7_noteMatchesAtEnd) (maxL := 2) (ret := none) (by decide) rfl ?_
  intro p e s m args below meth c s₁ B hml hv
  obtain ⟨hav, hsz, hP, hK, hD0⟩ := hv
  have hx := B.exec
  have hb := B.bytes
  have hr := B.returns
  have hts := atoms_spec (ws := wsX7_noteMatchesAtEnd) B.pre
  have hown : s.vm.findClass RX7 = some m.cls := findClass_of_methodNamed B.named
  have hlk := B.notSynchronized
  have hf30 : (Cond.fieldLink RX7 30 "KeywordMatcher" "keywords" "LKeywordMatcher$Keywords;").before args s = true := hts _ (List.mem_of_getElem? (i := 1) rfl)
  have hiX7 : ∀ w ∈ wsX70, w ∈ wsX7_noteMatchesAtEnd := fun w h => List.mem_cons_of_mem _ (List.mem_append_left _ (List.mem_append_left _ (List.mem_append_left _ (List.mem_append_left _ (List.mem_append_right _ h)))))
  have hf132 : (Cond.fieldLink RX7 132 "KeywordMatcher$Keywords" "given" "I").before args s = true := hts _ (List.mem_of_getElem? (i := 2) rfl)
  have hiX3 : ∀ w ∈ wsX30, w ∈ wsX7_noteMatchesAtEnd := fun w h => List.mem_cons_of_mem _ (List.mem_append_left _ (List.mem_append_left _ (List.mem_append_left _ (List.mem_append_right _ h))))
  have hf51 : (Cond.fieldLink RX7 51 "KeywordMatcher" "stream" "LKeywordMatcher$ByteRow;").before args s = true := hts _ (List.mem_of_getElem? (i := 3) rfl)
  have hf89 : (Cond.fieldLink RX7 89 "KeywordMatcher$ByteRow" "length" "I").before args s = true := hts _ (List.mem_of_getElem? (i := 4) rfl)
  have hiX1 : ∀ w ∈ wsX10, w ∈ wsX7_noteMatchesAtEnd := fun w h => List.mem_cons_of_mem _ (List.mem_append_left _ (List.mem_append_left _ (List.mem_append_right _ h)))
  subst hsz
  have hD := hD0.self (sz := s.heap.size)
  generalize hAe : va_A (wK cI cZ cJ ad x_work x_rebuilds x_reported x_folding_on x_buffer_length a_buffer_bytes x_keywords_given x_keywords_alive a_keywords_bytes a_keywords_lengths a_keywords_weights a_keywords_lives x_mainSet_count a_mainSet_members x_removalSet_count a_removalSet_members x_superstring_slots x_superstring_built b_superstring_sw a_superstring_starts a_superstring_lengths a_superstring_overlaps x_superstring_area_length a_superstring_area_bytes x_superstring_spare_length a_superstring_spare_bytes x_stream_length a_stream_bytes a_matches_words x_reports_size a_reports_positions a_reports_numbers x_chosen_size a_chosen_positions a_chosen_numbers a_depths a_bestFrom) s.heap.size = Az at hD ⊢
  have hA : ∀ q : Nat, s.heap.size ≤ q → Az q := fun q h => by rw [← hAe]; exact Or.inr h
  clear hAe
  have hSz : va_S Az s.heap s.heap [] := va_S.rf
  obtain ⟨wz, hw1⟩ : ∃ z : va_W, z = (wK cI cZ cJ ad x_work x_rebuilds x_reported x_folding_on x_buffer_length a_buffer_bytes x_keywords_given x_keywords_alive a_keywords_bytes a_keywords_lengths a_keywords_weights a_keywords_lives x_mainSet_count a_mainSet_members x_removalSet_count a_removalSet_members x_superstring_slots x_superstring_built b_superstring_sw a_superstring_starts a_superstring_lengths a_superstring_overlaps x_superstring_area_length a_superstring_area_bytes x_superstring_spare_length a_superstring_spare_bytes x_stream_length a_stream_bytes y_a_matches_words x_reports_size a_reports_positions a_reports_numbers x_chosen_size a_chosen_positions a_chosen_numbers a_depths a_bestFrom) := ⟨_, rfl⟩
  rw [← hw1]
  have hl := lv_entry ([.ref (ad 0)]) (n := 2) (Nat.le_of_ble_eq_true rfl)
  rw [show entryFrame m args 2 = entryFrame m ([.ref (ad 0)] : List Value).toArray 2 from by rw [hav], lg_entry_eq]
  generalize (lg_sl ([.ref (ad 0)]) ++ List.replicate (2 - (lg_sl ([.ref (ad 0)])).length) Slot.unset).toArray = ls at hl ⊢
  have hl : lv_has ls 2 [(0, .ref (ad 0))] := hl
  unfold s_X7_noteMatchesAtEnd at hs
  have Lz2 : ∀ (fu : Nat) (a_matches_words : (Int → Int)) (l1 : Int) (y0 : (Int → Int)), s_X7_noteMatchesAtEnd_2 fu x_folding_on x_keywords_given a_keywords_bytes a_keywords_lengths a_keywords_lives x_stream_length a_stream_bytes a_matches_words l1 = some y0 → ∀ (Hz : Heap) (lz : List Loc), va_P D vwCl (wK cI cZ cJ ad x_work x_rebuilds x_reported x_folding_on x_buffer_length a_buffer_bytes x_keywords_given x_keywords_alive a_keywords_bytes a_keywords_lengths a_keywords_weights a_keywords_lives x_mainSet_count a_mainSet_members x_removalSet_count a_removalSet_members x_superstring_slots x_superstring_built b_superstring_sw a_superstring_starts a_superstring_lengths a_superstring_overlaps x_superstring_area_length a_superstring_area_bytes x_superstring_spare_length a_superstring_spare_bytes x_stream_length a_stream_bytes a_matches_words x_reports_size a_reports_positions a_reports_numbers x_chosen_size a_chosen_positions a_chosen_numbers a_depths a_bestFrom) Hz → va_D Az (wK cI cZ cJ ad x_work x_rebuilds x_reported x_folding_on x_buffer_length a_buffer_bytes x_keywords_given x_keywords_alive a_keywords_bytes a_keywords_lengths a_keywords_weights a_keywords_lives x_mainSet_count a_mainSet_members x_removalSet_count a_removalSet_members x_superstring_slots x_superstring_built b_superstring_sw a_superstring_starts a_superstring_lengths a_superstring_overlaps x_superstring_area_length a_superstring_area_bytes x_superstring_spare_length a_superstring_spare_bytes x_stream_length a_stream_bytes a_matches_words x_reports_size a_reports_positions a_reports_numbers x_chosen_size a_chosen_positions a_chosen_numbers a_depths a_bestFrom) → va_S Az s.heap Hz lz → ∀ ls : Array Slot, lv_has ls 2 [(0, .ref (ad 0)), (1, .int (iI l1))] → (∀ (Hz : Heap) (lz : List Loc), va_P D vwCl (wK cI cZ cJ ad x_work x_rebuilds x_reported x_folding_on x_buffer_length a_buffer_bytes x_keywords_given x_keywords_alive a_keywords_bytes a_keywords_lengths a_keywords_weights a_keywords_lives x_mainSet_count a_mainSet_members x_removalSet_count a_removalSet_members x_superstring_slots x_superstring_built b_superstring_sw a_superstring_starts a_superstring_lengths a_superstring_overlaps x_superstring_area_length a_superstring_area_bytes x_superstring_spare_length a_superstring_spare_bytes x_stream_length a_stream_bytes y0 x_reports_size a_reports_positions a_reports_numbers x_chosen_size a_chosen_positions a_chosen_numbers a_depths a_bestFrom) Hz → va_D Az (wK cI cZ cJ ad x_work x_rebuilds x_reported x_folding_on x_buffer_length a_buffer_bytes x_keywords_given x_keywords_alive a_keywords_bytes a_keywords_lengths a_keywords_weights a_keywords_lives x_mainSet_count a_mainSet_members x_removalSet_count a_removalSet_members x_superstring_slots x_superstring_built b_superstring_sw a_superstring_starts a_superstring_lengths a_superstring_overlaps x_superstring_area_length a_superstring_area_bytes x_superstring_spare_length a_superstring_spare_bytes x_stream_length a_stream_bytes y0 x_reports_size a_reports_positions a_reports_numbers x_chosen_size a_chosen_positions a_chosen_numbers a_depths a_bestFrom) → va_S Az s.heap Hz lz → ∀ ls : Array Slot, lv_has ls 2 [] → W p l e (headSpec wsX7_noteMatchesAtEnd rm_X7_noteMatchesAtEnd).room s m args below meth c Hz lz 0 0 (MQ below (QW D vwCl none wz Az) args s 0 0 Az) (F0 m 51 ls [])) → W p l e (headSpec wsX7_noteMatchesAtEnd rm_X7_noteMatchesAtEnd).room s m args below meth c Hz lz 0 0 (MQ below (QW D vwCl none wz Az) args s 0 0 Az) (F0 m 2 ls []) := by
    intro fu
    induction fu with
    | zero => intro a_matches_words l1 y0 hs; cases hs
    | succ fu ih =>
      intro a_matches_words l1 y0 hs Hz lz hP hD hSz ls hl kx
      rw [s_X7_noteMatchesAtEnd_2_s] at hs
      refine lv_iload_n hx hb dX7_noteMatchesAtEnd_2 rfl (lv_at hl 1 rfl) ?_
      refine lv_aload_n hx hb dX7_noteMatchesAtEnd_3 rfl (lv_at hl 0 rfl) ?_
      refine va_get (ci := 7) (v := .ref (ad 4)) (C := RX7) (T := TX7) (N := 15) hx hb hts hiX7 hown hK hP 0 rfl rfl 2 (by decide) hf30 (fun _ h9 => h9) rfl dX7_noteMatchesAtEnd_4 ?_
      refine va_get (ci := 3) (v := .int (iI x_keywords_given)) (C := RX3) (T := TX3) (N := 7) hx hb hts hiX3 hown hK hP 4 rfl rfl 5 (by decide) hf132 (fun _ h9 => h9) rfl dX7_noteMatchesAtEnd_7 ?_
      refine k_icmp_ge (tgt := 51) hx hb hs dX7_noteMatchesAtEnd_10 (by decide) (fun hs => ?_) (fun hs => ?_)
      · refine lv_aload_n hx hb dX7_noteMatchesAtEnd_13 rfl (lv_at hl 0 rfl) ?_
        refine va_get (ci := 7) (v := .ref (ad 4)) (C := RX7) (T := TX7) (N := 15) hx hb hts hiX7 hown hK hP 0 rfl rfl 2 (by decide) hf30 (fun _ h9 => h9) rfl dX7_noteMatchesAtEnd_14 ?_
        refine lv_iload_n hx hb dX7_noteMatchesAtEnd_17 rfl (lv_at hl 1 rfl) ?_
        obtain ⟨vz1, hcz, hs⟩ := bd1_some hs
        have hPc : va_P D vwCl [((ad 4), .inr (3, [.ref (ad 1), .ref (ad 5), .ref (ad 6), .ref (ad 7), .ref (ad 8), .int (iI x_keywords_given), .int (iI x_keywords_alive)])), ((ad 1), .inr (2, [.int (iI x_folding_on)])), ((ad 5), .inl (cI, 1920, .inl (mI a_keywords_bytes))), ((ad 6), .inl (cI, 120, .inl (mI a_keywords_lengths))), ((ad 7), .inl (cI, 120, .inl (mI a_keywords_weights))), ((ad 8), .inl (cZ, 120, .inl (mI a_keywords_lives)))] Hz := hP.sub [4, 1, 5, 6, 7, 8] rfl
        refine k_rV (As := [.int (iI l1)]) (rest := []) (st1 := [.int (iI vz1)]) ⟨hx, hb, hml, hown, hts⟩ hK hPc (c_X3_isAlive l D cI cZ cJ hcz) (cwV 1 hts gX7_noteMatchesAtEnd_X3_isAlive rfl rfl rfl (by decide +kernel) ⟨Nat.le_of_ble_eq_true rfl, Nat.le_of_ble_eq_true rfl⟩) 0 rfl rfl rfl rfl hl.1 rfl (lv_room (Nat.le_of_ble_eq_true rfl)) dX7_noteMatchesAtEnd_18 ⟨Nat.zero_le _, Nat.zero_le _⟩ rfl ?_
        refine k_if_eq (tgt := 45) hx hb hs dX7_noteMatchesAtEnd_21 (by decide) (fun hs => ?_) (fun hs => ?_)
        · refine k_iinc (x := l1) (k := 1) (lv' := [(1, .int (iI (l1 + 1))), (0, .ref (ad 0))]) hx hb dX7_noteMatchesAtEnd_45 hl rfl (by decide) rfl (fun ls hl => ?_)
          refine lv_goto (tgt := 2) hx hb dX7_noteMatchesAtEnd_48 (by decide) ?_
          exact ih a_matches_words (l1 + 1) y0 hs Hz lz hP hD hSz ls (lv_sub hl [1, 0] rfl) kx
        · refine lv_aload_n hx hb dX7_noteMatchesAtEnd_24 rfl (lv_at hl 0 rfl) ?_
          refine lv_iload_n hx hb dX7_noteMatchesAtEnd_25 rfl (lv_at hl 1 rfl) ?_
          refine lv_aload_n hx hb dX7_noteMatchesAtEnd_26 rfl (lv_at hl 0 rfl) ?_
          refine va_get (ci := 7) (v := .ref (ad 21)) (C := RX7) (T := TX7) (N := 15) hx hb hts hiX7 hown hK hP 0 rfl rfl 6 (by decide) hf51 (fun _ h9 => h9) rfl dX7_noteMatchesAtEnd_27 ?_
          refine va_get (ci := 1) (v := .int (iI x_stream_length)) (C := RX1) (T := TX1) (N := 2) hx hb hts hiX1 hown hK hP 21 rfl rfl 1 (by decide) hf89 (fun _ h9 => h9) rfl dX7_noteMatchesAtEnd_30 ?_
          refine lv_aload_n hx hb dX7_noteMatchesAtEnd_33 rfl (lv_at hl 0 rfl) ?_
          refine va_get (ci := 7) (v := .ref (ad 4)) (C := RX7) (T := TX7) (N := 15) hx hb hts hiX7 hown hK hP 0 rfl rfl 2 (by decide) hf30 (fun _ h9 => h9) rfl dX7_noteMatchesAtEnd_34 ?_
          refine lv_iload_n hx hb dX7_noteMatchesAtEnd_37 rfl (lv_at hl 1 rfl) ?_
          obtain ⟨vz2, hcz, hs⟩ := bd1_some hs
          have hPc : va_P D vwCl [((ad 4), .inr (3, [.ref (ad 1), .ref (ad 5), .ref (ad 6), .ref (ad 7), .ref (ad 8), .int (iI x_keywords_given), .int (iI x_keywords_alive)])), ((ad 1), .inr (2, [.int (iI x_folding_on)])), ((ad 5), .inl (cI, 1920, .inl (mI a_keywords_bytes))), ((ad 6), .inl (cI, 120, .inl (mI a_keywords_lengths))), ((ad 7), .inl (cI, 120, .inl (mI a_keywords_weights))), ((ad 8), .inl (cZ, 120, .inl (mI a_keywords_lives)))] Hz := hP.sub [4, 1, 5, 6, 7, 8] rfl
          refine k_rV (As := [.int (iI l1)]) (rest := [.int (iI x_stream_length), .int (iI l1), .ref (ad 0)]) (st1 := [.int (iI vz2), .int (iI x_stream_length), .int (iI l1), .ref (ad 0)]) ⟨hx, hb, hml, hown, hts⟩ hK hPc (c_X3_lengthOf l D cI cZ cJ hcz) (cwV 1 hts gX7_noteMatchesAtEnd_X3_lengthOf rfl rfl rfl (by decide +kernel) ⟨Nat.le_of_ble_eq_true rfl, Nat.le_of_ble_eq_true rfl⟩) 0 rfl rfl rfl rfl hl.1 rfl (lv_room (Nat.le_of_ble_eq_true rfl)) dX7_noteMatchesAtEnd_38 ⟨Nat.zero_le _, Nat.zero_le _⟩ rfl ?_
          refine k_isub hx hb dX7_noteMatchesAtEnd_41 ?_
          obtain ⟨vz3, hcz, hs⟩ := bd1_some hs
          refine k_wVs (As := [.int (iI l1), .int (iI (x_stream_length - vz2))]) (rest := []) (st1 := []) (w1 := (wK cI cZ cJ ad x_work x_rebuilds x_reported x_folding_on x_buffer_length a_buffer_bytes x_keywords_given x_keywords_alive a_keywords_bytes a_keywords_lengths a_keywords_weights a_keywords_lives x_mainSet_count a_mainSet_members x_removalSet_count a_removalSet_members x_superstring_slots x_superstring_built b_superstring_sw a_superstring_starts a_superstring_lengths a_superstring_overlaps x_superstring_area_length a_superstring_area_bytes x_superstring_spare_length a_superstring_spare_bytes x_stream_length a_stream_bytes vz3 x_reports_size a_reports_positions a_reports_numbers x_chosen_size a_chosen_positions a_chosen_numbers a_depths a_bestFrom)) ⟨hx, hb, hml, hown, hts⟩ hK hP hD hSz hA (c_X7_noteMatch l D cI cZ cJ hcz) (cwV 2 hts gX7_noteMatchesAtEnd_X7_noteMatch rfl rfl rfl (by decide +kernel) ⟨Nat.le_of_ble_eq_true rfl, Nat.le_of_ble_eq_true rfl⟩) 0 rfl rfl rfl rfl rfl hl.1 rfl (lv_room (Nat.le_of_ble_eq_true rfl)) dX7_noteMatchesAtEnd_42 ⟨Nat.zero_le _, Nat.zero_le _⟩ rfl (fun Hz lz hP hD hSz => ?_)
          have hP : va_P D vwCl (wK cI cZ cJ ad x_work x_rebuilds x_reported x_folding_on x_buffer_length a_buffer_bytes x_keywords_given x_keywords_alive a_keywords_bytes a_keywords_lengths a_keywords_weights a_keywords_lives x_mainSet_count a_mainSet_members x_removalSet_count a_removalSet_members x_superstring_slots x_superstring_built b_superstring_sw a_superstring_starts a_superstring_lengths a_superstring_overlaps x_superstring_area_length a_superstring_area_bytes x_superstring_spare_length a_superstring_spare_bytes x_stream_length a_stream_bytes vz3 x_reports_size a_reports_positions a_reports_numbers x_chosen_size a_chosen_positions a_chosen_numbers a_depths a_bestFrom) Hz := hP
          have hD : va_D Az (wK cI cZ cJ ad x_work x_rebuilds x_reported x_folding_on x_buffer_length a_buffer_bytes x_keywords_given x_keywords_alive a_keywords_bytes a_keywords_lengths a_keywords_weights a_keywords_lives x_mainSet_count a_mainSet_members x_removalSet_count a_removalSet_members x_superstring_slots x_superstring_built b_superstring_sw a_superstring_starts a_superstring_lengths a_superstring_overlaps x_superstring_area_length a_superstring_area_bytes x_superstring_spare_length a_superstring_spare_bytes x_stream_length a_stream_bytes vz3 x_reports_size a_reports_positions a_reports_numbers x_chosen_size a_chosen_positions a_chosen_numbers a_depths a_bestFrom) := hD
          refine k_iinc (x := l1) (k := 1) (lv' := [(1, .int (iI (l1 + 1))), (0, .ref (ad 0))]) hx hb dX7_noteMatchesAtEnd_45 hl rfl (by decide) rfl (fun ls hl => ?_)
          refine lv_goto (tgt := 2) hx hb dX7_noteMatchesAtEnd_48 (by decide) ?_
          exact ih vz3 (l1 + 1) y0 hs Hz lz hP hD hSz ls (lv_sub hl [1, 0] rfl) kx
      · cases hs
        exact kx Hz lz hP hD hSz ls (lv_sub hl [] rfl)
  refine (?_ : ∀ (Hz : Heap) (lz : List Loc), va_P D vwCl (wK cI cZ cJ ad x_work x_rebuilds x_reported x_folding_on x_buffer_length a_buffer_bytes x_keywords_given x_keywords_alive a_keywords_bytes a_keywords_lengths a_keywords_weights a_keywords_lives x_mainSet_count a_mainSet_members x_removalSet_count a_removalSet_members x_superstring_slots x_superstring_built b_superstring_sw a_superstring_starts a_superstring_lengths a_superstring_overlaps x_superstring_area_length a_superstring_area_bytes x_superstring_spare_length a_superstring_spare_bytes x_stream_length a_stream_bytes a_matches_words x_reports_size a_reports_positions a_reports_numbers x_chosen_size a_chosen_positions a_chosen_numbers a_depths a_bestFrom) Hz → va_D Az (wK cI cZ cJ ad x_work x_rebuilds x_reported x_folding_on x_buffer_length a_buffer_bytes x_keywords_given x_keywords_alive a_keywords_bytes a_keywords_lengths a_keywords_weights a_keywords_lives x_mainSet_count a_mainSet_members x_removalSet_count a_removalSet_members x_superstring_slots x_superstring_built b_superstring_sw a_superstring_starts a_superstring_lengths a_superstring_overlaps x_superstring_area_length a_superstring_area_bytes x_superstring_spare_length a_superstring_spare_bytes x_stream_length a_stream_bytes a_matches_words x_reports_size a_reports_positions a_reports_numbers x_chosen_size a_chosen_positions a_chosen_numbers a_depths a_bestFrom) → va_S Az s.heap Hz lz → W p l e (headSpec wsX7_noteMatchesAtEnd rm_X7_noteMatchesAtEnd).room s m args below meth c Hz lz 0 0 (MQ below (QW D vwCl none wz Az) args s 0 0 Az) (F0 m 0 ls [])) s.heap [] hP hD hSz
  intro Hz lz hP hD hSz
  refine k_iconst (n := 0) hx hb dX7_noteMatchesAtEnd_0 ?_
  refine lv_istore_n (lv' := [(1, .int (iI 0)), (0, .ref (ad 0))]) hx hb dX7_noteMatchesAtEnd_1 rfl hl (by decide) rfl (fun ls hl => ?_)
  obtain ⟨ez4, hq, hs⟩ := bd1_some hs
  refine Lz2 FU a_matches_words 0 ez4 hq Hz lz hP hD hSz ls (lv_sub hl [1, 0] rfl) ?_
  intro Hz lz hP hD hSz ls hl
  cases hs
  exact k_vret_w hx hb hr hlk (by rw [hw1]; exact hP) hSz dX7_noteMatchesAtEnd_51 rfl
/-! X7_reportMatchesAtEnd -/
set_option maxHeartbeats 4000000 in
set_option maxRecDepth 100000 in
theorem c_X7_reportMatchesAtEnd (l : Launch) (D : va_G) (cI cZ cJ : ClassId) {ad : Nat → Nat} {x_work : Int} {x_rebuilds : Int} {x_reported : Int} {x_folding_on : Int} {x_buffer_length : Int} {a_buffer_bytes : (Int → Int)} {x_keywords_given : Int} {x_keywords_alive : Int} {a_keywords_bytes : (Int → Int)} {a_keywords_lengths : (Int → Int)} {a_keywords_weights : (Int → Int)} {a_keywords_lives : (Int → Int)} {x_mainSet_count : Int} {a_mainSet_members : (Int → Int)} {x_removalSet_count : Int} {a_removalSet_members : (Int → Int)} {x_superstring_slots : Int} {x_superstring_built : Int} {b_superstring_sw : Bool} {a_superstring_starts : (Int → Int)} {a_superstring_lengths : (Int → Int)} {a_superstring_overlaps : (Int → Int)} {x_superstring_area_length : Int} {a_superstring_area_bytes : (Int → Int)} {x_superstring_spare_length : Int} {a_superstring_spare_bytes : (Int → Int)} {x_stream_length : Int} {a_stream_bytes : (Int → Int)} {a_matches_words : (Int → Int)} {x_reports_size : Int} {a_reports_positions : (Int → Int)} {a_reports_numbers : (Int → Int)} {x_chosen_size : Int} {a_chosen_positions : (Int → Int)} {a_chosen_numbers : (Int → Int)} {a_depths : (Int → Int)} {a_bestFrom : (Int → Int)} {y_x_reported : Int} {y_x_reports_size : Int} {y_a_reports_positions : (Int → Int)} {y_a_reports_numbers : (Int → Int)} {sz : Nat} (hs : s_X7_reportMatchesAtEnd x_reported x_stream_length a_matches_words x_reports_size a_reports_positions a_reports_numbers = some (y_x_reported, y_x_reports_size, y_a_reports_positions, y_a_reports_numbers)) : Met l yX7_reportMatchesAtEnd wsX7_reportMatchesAtEnd rm_X7_reportMatchesAtEnd (PW D vwCl [(cI, .int), (cZ, .boolean), (cJ, .long)] [.ref (ad 0)] (wK cI cZ cJ ad x_work x_rebuilds x_reported x_folding_on x_buffer_length a_buffer_bytes x_keywords_given x_keywords_alive a_keywords_bytes a_keywords_lengths a_keywords_weights a_keywords_lives x_mainSet_count a_mainSet_members x_removalSet_count a_removalSet_members x_superstring_slots x_superstring_built b_superstring_sw a_superstring_starts a_superstring_lengths a_superstring_overlaps x_superstring_area_length a_superstring_area_bytes x_superstring_spare_length a_superstring_spare_bytes x_stream_length a_stream_bytes a_matches_words x_reports_size a_reports_positions a_reports_numbers x_chosen_size a_chosen_positions a_chosen_numbers a_depths a_bestFrom) sz) (QW D vwCl none (wK cI cZ cJ ad x_work x_rebuilds y_x_reported x_folding_on x_buffer_length a_buffer_bytes x_keywords_given x_keywords_alive a_keywords_bytes a_keywords_lengths a_keywords_weights a_keywords_lives x_mainSet_count a_mainSet_members x_removalSet_count a_removalSet_members x_superstring_slots x_superstring_built b_superstring_sw a_superstring_starts a_superstring_lengths a_superstring_overlaps x_superstring_area_length a_superstring_area_bytes x_superstring_spare_length a_superstring_spare_bytes x_stream_length a_stream_bytes a_matches_words y_x_reports_size y_a_reports_positions y_a_reports_numbers x_chosen_size a_chosen_positions a_chosen_numbers a_depths a_bestFrom) (va_A (wK cI cZ cJ ad x_work x_rebuilds x_reported x_folding_on x_buffer_length a_buffer_bytes x_keywords_given x_keywords_alive a_keywords_bytes a_keywords_lengths a_keywords_weights a_keywords_lives x_mainSet_count a_mainSet_members x_removalSet_count a_removalSet_members x_superstring_slots x_superstring_built b_superstring_sw a_superstring_starts a_superstring_lengths a_superstring_overlaps x_superstring_area_length a_superstring_area_bytes x_superstring_spare_length a_superstring_spare_bytes x_stream_length a_stream_bytes a_matches_words x_reports_size a_reports_positions a_reports_numbers x_chosen_size a_chosen_positions a_chosen_numbers a_depths a_bestFrom) sz)) 0 0 (va_A (wK cI cZ cJ ad x_work x_rebuilds x_reported x_folding_on x_buffer_length a_buffer_bytes x_keywords_given x_keywords_alive a_keywords_bytes a_keywords_lengths a_keywords_weights a_keywords_lives x_mainSet_count a_mainSet_members x_removalSet_count a_removalSet_members x_superstring_slots x_superstring_built b_superstring_sw a_superstring_starts a_superstring_lengths a_superstring_overlaps x_superstring_area_length a_superstring_area_bytes x_superstring_spare_length a_superstring_spare_bytes x_stream_length a_stream_bytes a_matches_words x_reports_size a_reports_positions a_reports_numbers x_chosen_size a_chosen_positions a_chosen_numbers a_depths a_bestFrom) sz) := by
  refine Met.ofW (cc := cX7_reportMatchesAtEnd) (maxL := 3) (ret := none) (by decide) rfl ?_
  intro p e s m args below meth c s₁ B hml hv
  obtain ⟨hav, hsz, hP, hK, hD0⟩ := hv
  have hx := B.exec
  have hb := B.bytes
  have hr := B.returns
  have hts := atoms_spec (ws := wsX7_reportMatchesAtEnd) B.pre
  have hown : s.vm.findClass RX7 = some m.cls := findClass_of_methodNamed B.named
  have hlk := B.notSynchronized
  have hf57 : (Cond.fieldLink RX7 57 "KeywordMatcher" "matches" "LKeywordMatcher$MatchTable;").before args s = true := hts _ (List.mem_of_getElem? (i := 1) rfl)
  have hiX7 : ∀ w ∈ wsX70, w ∈ wsX7_reportMatchesAtEnd := fun w h => List.mem_cons_of_mem _ (List.mem_append_left _ (List.mem_append_left _ (List.mem_append_left _ (List.mem_append_right _ h))))
  have hf51 : (Cond.fieldLink RX7 51 "KeywordMatcher" "stream" "LKeywordMatcher$ByteRow;").before args s = true := hts _ (List.mem_of_getElem? (i := 2) rfl)
  have hf89 : (Cond.fieldLink RX7 89 "KeywordMatcher$ByteRow" "length" "I").before args s = true := hts _ (List.mem_of_getElem? (i := 3) rfl)
  have hiX1 : ∀ w ∈ wsX10, w ∈ wsX7_reportMatchesAtEnd := fun w h => List.mem_cons_of_mem _ (List.mem_append_left _ (List.mem_append_left _ (List.mem_append_right _ h)))
  have hf86 : (Cond.fieldLink RX7 86 "KeywordMatcher" "reported" "I").before args s = true := hts _ (List.mem_of_getElem? (i := 4) rfl)
  have hf64 : (Cond.fieldLink RX7 64 "KeywordMatcher" "reports" "LKeywordMatcher$MatchList;").before args s = true := hts _ (List.mem_of_getElem? (i := 5) rfl)
  subst hsz
  have hD := hD0.self (sz := s.heap.size)
  generalize hAe : va_A (wK cI cZ cJ ad x_work x_rebuilds x_reported x_folding_on x_buffer_length a_buffer_bytes x_keywords_given x_keywords_alive a_keywords_bytes a_keywords_lengths a_keywords_weights a_keywords_lives x_mainSet_count a_mainSet_members x_removalSet_count a_removalSet_members x_superstring_slots x_superstring_built b_superstring_sw a_superstring_starts a_superstring_lengths a_superstring_overlaps x_superstring_area_length a_superstring_area_bytes x_superstring_spare_length a_superstring_spare_bytes x_stream_length a_stream_bytes a_matches_words x_reports_size a_reports_positions a_reports_numbers x_chosen_size a_chosen_positions a_chosen_numbers a_depths a_bestFrom) s.heap.size = Az at hD ⊢
  have hA : ∀ q : Nat, s.heap.size ≤ q → Az q := fun q h => by rw [← hAe]; exact Or.inr h
  clear hAe
  have hSz : va_S Az s.heap s.heap [] := va_S.rf
  obtain ⟨wz, hw1⟩ : ∃ z : va_W, z = (wK cI cZ cJ ad x_work x_rebuilds y_x_reported x_folding_on x_buffer_length a_buffer_bytes x_keywords_given x_keywords_alive a_keywords_bytes a_keywords_lengths a_keywords_weights a_keywords_lives x_mainSet_count a_mainSet_members x_removalSet_count a_removalSet_members x_superstring_slots x_superstring_built b_superstring_sw a_superstring_starts a_superstring_lengths a_superstring_overlaps x_superstring_area_length a_superstring_area_bytes x_superstring_spare_length a_superstring_spare_bytes x_stream_length a_stream_bytes a_matches_words y_x_reports_size y_a_reports_positions y_a_reports_numbers x_chosen_size a_chosen_positions a_chosen_numbers a_depths a_bestFrom) := ⟨_, rfl⟩
  rw [← hw1]
  have hl := lv_entry ([.ref (ad 0)]) (n := 3) (Nat.le_of_ble_eq_true rfl)
  rw [show entryFrame m args 3 = entryFrame m ([.ref (ad 0)] : List Value).toArray 3 from by rw [hav], lg_entry_eq]
  generalize (lg_sl ([.ref (ad 0)]) ++ List.replicate (3 - (lg_sl ([.ref (ad 0)])).length) Slot.unset).toArray = ls at hl ⊢
  have hl : lv_has ls 3 [(0, .ref (ad 0))] := hl
  unfold s_X7_reportMatchesAtEnd at hs
  have Lz3 : ∀ (fu : Nat) (x_reported : Int) (x_reports_size : Int) (a_reports_positions : (Int → Int)) (a_reports_numbers : (Int → Int)) (l1 : Int) (y0 : Int) (y1 : Int) (y2 : (Int → Int)) (y3 : (Int → Int)), s_X7_reportMatchesAtEnd_3 fu x_reported x_stream_length a_matches_words x_reports_size a_reports_positions a_reports_numbers l1 = some (y0, y1, y2, y3) → ∀ (Hz : Heap) (lz : List Loc), va_P D vwCl (wK cI cZ cJ ad x_work x_rebuilds x_reported x_folding_on x_buffer_length a_buffer_bytes x_keywords_given x_keywords_alive a_keywords_bytes a_keywords_lengths a_keywords_weights a_keywords_lives x_mainSet_count a_mainSet_members x_removalSet_count a_removalSet_members x_superstring_slots x_superstring_built b_superstring_sw a_superstring_starts a_superstring_lengths a_superstring_overlaps x_superstring_area_length a_superstring_area_bytes x_superstring_spare_length a_superstring_spare_bytes x_stream_length a_stream_bytes a_matches_words x_reports_size a_reports_positions a_reports_numbers x_chosen_size a_chosen_positions a_chosen_numbers a_depths a_bestFrom) Hz → va_D Az (wK cI cZ cJ ad x_work x_rebuilds x_reported x_folding_on x_buffer_length a_buffer_bytes x_keywords_given x_keywords_alive a_keywords_bytes a_keywords_lengths a_keywords_weights a_keywords_lives x_mainSet_count a_mainSet_members x_removalSet_count a_removalSet_members x_superstring_slots x_superstring_built b_superstring_sw a_superstring_starts a_superstring_lengths a_superstring_overlaps x_superstring_area_length a_superstring_area_bytes x_superstring_spare_length a_superstring_spare_bytes x_stream_length a_stream_bytes a_matches_words x_reports_size a_reports_positions a_reports_numbers x_chosen_size a_chosen_positions a_chosen_numbers a_depths a_bestFrom) → va_S Az s.heap Hz lz → ∀ ls : Array Slot, lv_has ls 3 [(0, .ref (ad 0)), (1, .int (iI l1))] → (∀ (Hz : Heap) (lz : List Loc), va_P D vwCl (wK cI cZ cJ ad x_work x_rebuilds y0 x_folding_on x_buffer_length a_buffer_bytes x_keywords_given x_keywords_alive a_keywords_bytes a_keywords_lengths a_keywords_weights a_keywords_lives x_mainSet_count a_mainSet_members x_removalSet_count a_removalSet_members x_superstring_slots x_superstring_built b_superstring_sw a_superstring_starts a_superstring_lengths a_superstring_overlaps x_superstring_area_length a_superstring_area_bytes x_superstring_spare_length a_superstring_spare_bytes x_stream_length a_stream_bytes a_matches_words y1 y2 y3 x_chosen_size a_chosen_positions a_chosen_numbers a_depths a_bestFrom) Hz → va_D Az (wK cI cZ cJ ad x_work x_rebuilds y0 x_folding_on x_buffer_length a_buffer_bytes x_keywords_given x_keywords_alive a_keywords_bytes a_keywords_lengths a_keywords_weights a_keywords_lives x_mainSet_count a_mainSet_members x_removalSet_count a_removalSet_members x_superstring_slots x_superstring_built b_superstring_sw a_superstring_starts a_superstring_lengths a_superstring_overlaps x_superstring_area_length a_superstring_area_bytes x_superstring_spare_length a_superstring_spare_bytes x_stream_length a_stream_bytes a_matches_words y1 y2 y3 x_chosen_size a_chosen_positions a_chosen_numbers a_depths a_bestFrom) → va_S Az s.heap Hz lz → ∀ ls : Array Slot, lv_has ls 3 [] → W p l e (headSpec wsX7_reportMatchesAtEnd rm_X7_reportMatchesAtEnd).room s m args below meth c Hz lz 0 0 (MQ below (QW D vwCl none wz Az) args s 0 0 Az) (F0 m 63 ls [])) → W p l e (headSpec wsX7_reportMatchesAtEnd rm_X7_reportMatchesAtEnd).room s m args below meth c Hz lz 0 0 (MQ below (QW D vwCl none wz Az) args s 0 0 Az) (F0 m 3 ls []) := by
    intro fu
    induction fu with
    | zero => intro x_reported x_reports_size a_reports_positions a_reports_numbers l1 y0 y1 y2 y3 hs; cases hs
    | succ fu ih =>
      intro x_reported x_reports_size a_reports_positions a_reports_numbers l1 y0 y1 y2 y3 hs Hz lz hP hD hSz ls hl kx
      rw [s_X7_reportMatchesAtEnd_3_s] at hs
      refine lv_iload_n hx hb dX7_reportMatchesAtEnd_3 rfl (lv_at hl 1 rfl) ?_
      refine k_if_le (tgt := 63) hx hb hs dX7_reportMatchesAtEnd_4 (by decide) (fun hs => ?_) (fun hs => ?_)
      · refine lv_aload_n hx hb dX7_reportMatchesAtEnd_7 rfl (lv_at hl 0 rfl) ?_
        refine va_get (ci := 7) (v := .ref (ad 23)) (C := RX7) (T := TX7) (N := 15) hx hb hts hiX7 hown hK hP 0 rfl rfl 7 (by decide) hf57 (fun _ h9 => h9) rfl dX7_reportMatchesAtEnd_8 ?_
        refine lv_aload_n hx hb dX7_reportMatchesAtEnd_11 rfl (lv_at hl 0 rfl) ?_
        refine va_get (ci := 7) (v := .ref (ad 21)) (C := RX7) (T := TX7) (N := 15) hx hb hts hiX7 hown hK hP 0 rfl rfl 6 (by decide) hf51 (fun _ h9 => h9) rfl dX7_reportMatchesAtEnd_12 ?_
        refine va_get (ci := 1) (v := .int (iI x_stream_length)) (C := RX1) (T := TX1) (N := 2) hx hb hts hiX1 hown hK hP 21 rfl rfl 1 (by decide) hf89 (fun _ h9 => h9) rfl dX7_reportMatchesAtEnd_15 ?_
        refine lv_iload_n hx hb dX7_reportMatchesAtEnd_18 rfl (lv_at hl 1 rfl) ?_
        refine k_isub hx hb dX7_reportMatchesAtEnd_19 ?_
        refine lv_iload_n hx hb dX7_reportMatchesAtEnd_20 rfl (lv_at hl 1 rfl) ?_
        obtain ⟨vz1, hcz, hs⟩ := bd1_some hs
        have hPc : va_P D vwCl [((ad 23), .inr (5, [.ref (ad 24)])), ((ad 24), .inl (cJ, 1200, .inr (.inl (mL a_matches_words))))] Hz := hP.sub [23, 24] rfl
        refine k_rV (As := [.int (iI (x_stream_length - l1)), .int (iI l1)]) (rest := []) (st1 := [.int (iI vz1)]) ⟨hx, hb, hml, hown, hts⟩ hK hPc (c_X5_at l D cI cZ cJ hcz) (cwV 2 hts gX7_reportMatchesAtEnd_X5_at rfl rfl rfl (by decide +kernel) ⟨Nat.le_of_ble_eq_true rfl, Nat.le_of_ble_eq_true rfl⟩) 0 rfl rfl rfl rfl hl.1 rfl (lv_room (Nat.le_of_ble_eq_true rfl)) dX7_reportMatchesAtEnd_21 ⟨Nat.zero_le _, Nat.zero_le _⟩ rfl ?_
        refine lv_istore_n (lv' := [(2, .int (iI vz1)), (0, .ref (ad 0)), (1, .int (iI l1))]) hx hb dX7_reportMatchesAtEnd_24 rfl hl (by decide) rfl (fun ls hl => ?_)
        refine lv_iload_n hx hb dX7_reportMatchesAtEnd_25 rfl (lv_at hl 0 rfl) ?_
        refine k_iconst (n := (-1)) hx hb dX7_reportMatchesAtEnd_26 ?_
        refine k_icmp_eq (tgt := 57) hx hb hs dX7_reportMatchesAtEnd_27 (by decide) (fun hs => ?_) (fun hs => ?_)
        · refine k_iinc (x := l1) (k := 2) (lv' := [(1, .int (iI (l1 + (-1)))), (2, .int (iI vz1)), (0, .ref (ad 0))]) hx hb dX7_reportMatchesAtEnd_57 hl rfl (by decide) rfl (fun ls hl => ?_)
          refine lv_goto (tgt := 3) hx hb dX7_reportMatchesAtEnd_60 (by decide) ?_
          exact ih x_reported x_reports_size a_reports_positions a_reports_numbers (l1 + (-1)) y0 y1 y2 y3 hs Hz lz hP hD hSz ls (lv_sub hl [2, 0] rfl) kx
        · refine lv_aload_n hx hb dX7_reportMatchesAtEnd_30 rfl (lv_at hl 1 rfl) ?_
          refine lv_dup hx hb dX7_reportMatchesAtEnd_31 rfl ?_
          refine va_get (ci := 7) (v := .int (iI x_reported)) (C := RX7) (T := TX7) (N := 15) hx hb hts hiX7 hown hK hP 0 rfl rfl 14 (by decide) hf86 (fun _ h9 => h9) rfl dX7_reportMatchesAtEnd_32 ?_
          refine k_iconst (n := 1) hx hb dX7_reportMatchesAtEnd_35 ?_
          refine k_iadd hx hb dX7_reportMatchesAtEnd_36 ?_
          refine va_put (ci := 7) (v := .int (iI (x_reported + 1))) (ty := .int) (C := RX7) (T := TX7) (N := 15) hx hb hts hiX7 tyX7 tyX7_ok nmX7 hown hK hP hD hSz 0 rfl rfl 14 (by decide) hf86 (fun _ h9 => h9) rfl (by decide +kernel) rfl rfl (Nat.le_of_ble_eq_true rfl) dX7_reportMatchesAtEnd_37 (fun Hz lz hP hD hSz => ?_)
          have hP : va_P D vwCl (wK cI cZ cJ ad x_work x_rebuilds (x_reported + 1) x_folding_on x_buffer_length a_buffer_bytes x_keywords_given x_keywords_alive a_keywords_bytes a_keywords_lengths a_keywords_weights a_keywords_lives x_mainSet_count a_mainSet_members x_removalSet_count a_removalSet_members x_superstring_slots x_superstring_built b_superstring_sw a_superstring_starts a_superstring_lengths a_superstring_overlaps x_superstring_area_length a_superstring_area_bytes x_superstring_spare_length a_superstring_spare_bytes x_stream_length a_stream_bytes a_matches_words x_reports_size a_reports_positions a_reports_numbers x_chosen_size a_chosen_positions a_chosen_numbers a_depths a_bestFrom) Hz := hP
          have hD : va_D Az (wK cI cZ cJ ad x_work x_rebuilds (x_reported + 1) x_folding_on x_buffer_length a_buffer_bytes x_keywords_given x_keywords_alive a_keywords_bytes a_keywords_lengths a_keywords_weights a_keywords_lives x_mainSet_count a_mainSet_members x_removalSet_count a_removalSet_members x_superstring_slots x_superstring_built b_superstring_sw a_superstring_starts a_superstring_lengths a_superstring_overlaps x_superstring_area_length a_superstring_area_bytes x_superstring_spare_length a_superstring_spare_bytes x_stream_length a_stream_bytes a_matches_words x_reports_size a_reports_positions a_reports_numbers x_chosen_size a_chosen_positions a_chosen_numbers a_depths a_bestFrom) := hD
          refine lv_aload_n hx hb dX7_reportMatchesAtEnd_40 rfl (lv_at hl 1 rfl) ?_
          refine va_get (ci := 7) (v := .ref (ad 25)) (C := RX7) (T := TX7) (N := 15) hx hb hts hiX7 hown hK hP 0 rfl rfl 8 (by decide) hf64 (fun _ h9 => h9) rfl dX7_reportMatchesAtEnd_41 ?_
          refine lv_aload_n hx hb dX7_reportMatchesAtEnd_44 rfl (lv_at hl 1 rfl) ?_
          refine va_get (ci := 7) (v := .ref (ad 21)) (C := RX7) (T := TX7) (N := 15) hx hb hts hiX7 hown hK hP 0 rfl rfl 6 (by decide) hf51 (fun _ h9 => h9) rfl dX7_reportMatchesAtEnd_45 ?_
          refine va_get (ci := 1) (v := .int (iI x_stream_length)) (C := RX1) (T := TX1) (N := 2) hx hb hts hiX1 hown hK hP 21 rfl rfl 1 (by decide) hf89 (fun _ h9 => h9) rfl dX7_reportMatchesAtEnd_48 ?_
          refine k_iconst (n := 1) hx hb dX7_reportMatchesAtEnd_51 ?_
          refine k_isub hx hb dX7_reportMatchesAtEnd_52 ?_
          refine lv_iload_n hx hb dX7_reportMatchesAtEnd_53 rfl (lv_at hl 0 rfl) ?_
          obtain ⟨vz2, vz3, vz4, hcz, hs⟩ := bd3_some hs
          refine k_wV (As := [.int (iI (x_stream_length - 1)), .int (iI vz1)]) (rest := []) (st1 := []) (wc := [((ad 25), .inr (4, [.ref (ad 26), .ref (ad 27), .int (iI x_reports_size)])), ((ad 26), .inl (cI, 300, .inl (mI a_reports_positions))), ((ad 27), .inl (cI, 300, .inl (mI a_reports_numbers)))]) (w1 := [((ad 25), .inr (4, [.ref (ad 26), .ref (ad 27), .int (iI vz2)])), ((ad 26), .inl (cI, 300, .inl (mI vz3))), ((ad 27), .inl (cI, 300, .inl (mI vz4)))]) ⟨hx, hb, hml, hown, hts⟩ hK hP hD hSz hA [25, 26, 27] rfl (by decide) (c_X4_add l D cI cZ cJ (Nat.le_of_ble_eq_true rfl) hcz) (cwV 2 hts gX7_reportMatchesAtEnd_X4_add rfl rfl rfl (by decide +kernel) ⟨Nat.le_of_ble_eq_true rfl, Nat.le_of_ble_eq_true rfl⟩) 25 rfl rfl rfl rfl rfl hl.1 rfl (lv_room (Nat.le_of_ble_eq_true rfl)) dX7_reportMatchesAtEnd_54 ⟨Nat.zero_le _, Nat.zero_le _⟩ rfl (fun Hz lz hP hD hSz => ?_)
          have hP : va_P D vwCl (wK cI cZ cJ ad x_work x_rebuilds (x_reported + 1) x_folding_on x_buffer_length a_buffer_bytes x_keywords_given x_keywords_alive a_keywords_bytes a_keywords_lengths a_keywords_weights a_keywords_lives x_mainSet_count a_mainSet_members x_removalSet_count a_removalSet_members x_superstring_slots x_superstring_built b_superstring_sw a_superstring_starts a_superstring_lengths a_superstring_overlaps x_superstring_area_length a_superstring_area_bytes x_superstring_spare_length a_superstring_spare_bytes x_stream_length a_stream_bytes a_matches_words vz2 vz3 vz4 x_chosen_size a_chosen_positions a_chosen_numbers a_depths a_bestFrom) Hz := hP
          have hD : va_D Az (wK cI cZ cJ ad x_work x_rebuilds (x_reported + 1) x_folding_on x_buffer_length a_buffer_bytes x_keywords_given x_keywords_alive a_keywords_bytes a_keywords_lengths a_keywords_weights a_keywords_lives x_mainSet_count a_mainSet_members x_removalSet_count a_removalSet_members x_superstring_slots x_superstring_built b_superstring_sw a_superstring_starts a_superstring_lengths a_superstring_overlaps x_superstring_area_length a_superstring_area_bytes x_superstring_spare_length a_superstring_spare_bytes x_stream_length a_stream_bytes a_matches_words vz2 vz3 vz4 x_chosen_size a_chosen_positions a_chosen_numbers a_depths a_bestFrom) := hD
          refine k_iinc (x := l1) (k := 2) (lv' := [(1, .int (iI (l1 + (-1)))), (2, .int (iI vz1)), (0, .ref (ad 0))]) hx hb dX7_reportMatchesAtEnd_57 hl rfl (by decide) rfl (fun ls hl => ?_)
          refine lv_goto (tgt := 3) hx hb dX7_reportMatchesAtEnd_60 (by decide) ?_
          exact ih (x_reported + 1) vz2 vz3 vz4 (l1 + (-1)) y0 y1 y2 y3 hs Hz lz hP hD hSz ls (lv_sub hl [2, 0] rfl) kx
      · cases hs
        exact kx Hz lz hP hD hSz ls (lv_sub hl [] rfl)
  refine (?_ : ∀ (Hz : Heap) (lz : List Loc), va_P D vwCl (wK cI cZ cJ ad x_work x_rebuilds x_reported x_folding_on x_buffer_length a_buffer_bytes x_keywords_given x_keywords_alive a_keywords_bytes a_keywords_lengths a_keywords_weights a_keywords_lives x_mainSet_count a_mainSet_members x_removalSet_count a_removalSet_members x_superstring_slots x_superstring_built b_superstring_sw a_superstring_starts a_superstring_lengths a_superstring_overlaps x_superstring_area_length a_superstring_area_bytes x_superstring_spare_length a_superstring_spare_bytes x_stream_length a_stream_bytes a_matches_words x_reports_size a_reports_positions a_reports_numbers x_chosen_size a_chosen_positions a_chosen_numbers a_depths a_bestFrom) Hz → va_D Az (wK cI cZ cJ ad x_work x_rebuilds x_reported x_folding_on x_buffer_length a_buffer_bytes x_keywords_given x_keywords_alive a_keywords_bytes a_keywords_lengths a_keywords_weights a_keywords_lives x_mainSet_count a_mainSet_members x_removalSet_count a_removalSet_members x_superstring_slots x_superstring_built b_superstring_sw a_superstring_starts a_superstring_lengths a_superstring_overlaps x_superstring_area_length a_superstring_area_bytes x_superstring_spare_length a_superstring_spare_bytes x_stream_length a_stream_bytes a_matches_words x_reports_size a_reports_positions a_reports_numbers x_chosen_size a_chosen_positions a_chosen_numbers a_depths a_bestFrom) → va_S Az s.heap Hz lz → W p l e (headSpec wsX7_reportMatchesAtEnd rm_X7_reportMatchesAtEnd).room s m args below meth c Hz lz 0 0 (MQ below (QW D vwCl none wz Az) args s 0 0 Az) (F0 m 0 ls [])) s.heap [] hP hD hSz
  intro Hz lz hP hD hSz
  refine k_bipush (n := 16) hx hb (by decide) dX7_reportMatchesAtEnd_0 ?_
  refine lv_istore_n (lv' := [(1, .int (iI 16)), (0, .ref (ad 0))]) hx hb dX7_reportMatchesAtEnd_2 rfl hl (by decide) rfl (fun ls hl => ?_)
  obtain ⟨ez5, ez6, ez7, ez8, hq, hs⟩ := bd4_some hs
  refine Lz3 FU x_reported x_reports_size a_reports_positions a_reports_numbers 16 ez5 ez6 ez7 ez8 hq Hz lz hP hD hSz ls (lv_sub hl [1, 0] rfl) ?_
  intro Hz lz hP hD hSz ls hl
  cases hs
  exact k_vret_w hx hb hr hlk (by rw [hw1]; exact hP) hSz dX7_reportMatchesAtEnd_63 rfl
/-! X7_scan -/
set_option maxHeartbeats 4000000 in
set_option maxRecDepth 100000 in
theorem c_X7_scan (l : Launch) (D : va_G) (cI cZ cJ : ClassId) {ad : Nat → Nat} {x_work : Int} {x_rebuilds : Int} {x_reported : Int} {x_folding_on : Int} {x_buffer_length : Int} {a_buffer_bytes : (Int → Int)} {x_keywords_given : Int} {x_keywords_alive : Int} {a_keywords_bytes : (Int → Int)} {a_keywords_lengths : (Int → Int)} {a_keywords_weights : (Int → Int)} {a_keywords_lives : (Int → Int)} {x_mainSet_count : Int} {a_mainSet_members : (Int → Int)} {x_removalSet_count : Int} {a_removalSet_members : (Int → Int)} {x_superstring_slots : Int} {x_superstring_built : Int} {b_superstring_sw : Bool} {a_superstring_starts : (Int → Int)} {a_superstring_lengths : (Int → Int)} {a_superstring_overlaps : (Int → Int)} {x_superstring_area_length : Int} {a_superstring_area_bytes : (Int → Int)} {x_superstring_spare_length : Int} {a_superstring_spare_bytes : (Int → Int)} {x_stream_length : Int} {a_stream_bytes : (Int → Int)} {a_matches_words : (Int → Int)} {x_reports_size : Int} {a_reports_positions : (Int → Int)} {a_reports_numbers : (Int → Int)} {x_chosen_size : Int} {a_chosen_positions : (Int → Int)} {a_chosen_numbers : (Int → Int)} {a_depths : (Int → Int)} {a_bestFrom : (Int → Int)} {pz1 : Int} {r : Int} {y_x_reported : Int} {y_x_buffer_length : Int} {y_x_stream_length : Int} {y_a_stream_bytes : (Int → Int)} {y_a_matches_words : (Int → Int)} {y_x_reports_size : Int} {y_a_reports_positions : (Int → Int)} {y_a_reports_numbers : (Int → Int)} {sz : Nat} (hs : s_X7_scan x_reported x_folding_on x_buffer_length a_buffer_bytes x_keywords_given a_keywords_bytes a_keywords_lengths a_keywords_lives x_stream_length a_stream_bytes a_matches_words x_reports_size a_reports_positions a_reports_numbers pz1 = some (r, y_x_reported, y_x_buffer_length, y_x_stream_length, y_a_stream_bytes, y_a_matches_words, y_x_reports_size, y_a_reports_positions, y_a_reports_numbers)) : Met l yX7_scan wsX7_scan rm_X7_scan (PW D vwCl [(cI, .int), (cZ, .boolean), (cJ, .long)] [.ref (ad 0), .int (iI pz1)] (wK cI cZ cJ ad x_work x_rebuilds x_reported x_folding_on x_buffer_length a_buffer_bytes x_keywords_given x_keywords_alive a_keywords_bytes a_keywords_lengths a_keywords_weights a_keywords_lives x_mainSet_count a_mainSet_members x_removalSet_count a_removalSet_members x_superstring_slots x_superstring_built b_superstring_sw a_superstring_starts a_superstring_lengths a_superstring_overlaps x_superstring_area_length a_superstring_area_bytes x_superstring_spare_length a_superstring_spare_bytes x_stream_length a_stream_bytes a_matches_words x_reports_size a_reports_positions a_reports_numbers x_chosen_size a_chosen_positions a_chosen_numbers a_depths a_bestFrom) sz) (QW D vwCl (some (.int (iI r))) (wK cI cZ cJ ad x_work x_rebuilds y_x_reported x_folding_on y_x_buffer_length a_buffer_bytes x_keywords_given x_keywords_alive a_keywords_bytes a_keywords_lengths a_keywords_weights a_keywords_lives x_mainSet_count a_mainSet_members x_removalSet_count a_removalSet_members x_superstring_slots x_superstring_built b_superstring_sw a_superstring_starts a_superstring_lengths a_superstring_overlaps x_superstring_area_length a_superstring_area_bytes x_superstring_spare_length a_superstring_spare_bytes y_x_stream_length y_a_stream_bytes y_a_matches_words y_x_reports_size y_a_reports_positions y_a_reports_numbers x_chosen_size a_chosen_positions a_chosen_numbers a_depths a_bestFrom) (va_A (wK cI cZ cJ ad x_work x_rebuilds x_reported x_folding_on x_buffer_length a_buffer_bytes x_keywords_given x_keywords_alive a_keywords_bytes a_keywords_lengths a_keywords_weights a_keywords_lives x_mainSet_count a_mainSet_members x_removalSet_count a_removalSet_members x_superstring_slots x_superstring_built b_superstring_sw a_superstring_starts a_superstring_lengths a_superstring_overlaps x_superstring_area_length a_superstring_area_bytes x_superstring_spare_length a_superstring_spare_bytes x_stream_length a_stream_bytes a_matches_words x_reports_size a_reports_positions a_reports_numbers x_chosen_size a_chosen_positions a_chosen_numbers a_depths a_bestFrom) sz)) 0 0 (va_A (wK cI cZ cJ ad x_work x_rebuilds x_reported x_folding_on x_buffer_length a_buffer_bytes x_keywords_given x_keywords_alive a_keywords_bytes a_keywords_lengths a_keywords_weights a_keywords_lives x_mainSet_count a_mainSet_members x_removalSet_count a_removalSet_members x_superstring_slots x_superstring_built b_superstring_sw a_superstring_starts a_superstring_lengths a_superstring_overlaps x_superstring_area_length a_superstring_area_bytes x_superstring_spare_length a_superstring_spare_bytes x_stream_length a_stream_bytes a_matches_words x_reports_size a_reports_positions a_reports_numbers x_chosen_size a_chosen_positions a_chosen_numbers a_depths a_bestFrom) sz) := by
  refine Met.ofW (cc := cX7_scan) (maxL := 5) (ret := (some .int)) (by decide) rfl ?_
  intro p e s m args below meth c s₁ B hml hv
  obtain ⟨hav, hsz, hP, hK, hD0⟩ := hv
  have hx := B.exec
  have hb := B.bytes
  have hr := B.returns
  have hts := atoms_spec (ws := wsX7_scan) B.pre
  have hown : s.vm.findClass RX7 = some m.cls := findClass_of_methodNamed B.named
  have hlk := B.notSynchronized
  have hf51 : (Cond.fieldLink RX7 51 "KeywordMatcher" "stream" "LKeywordMatcher$ByteRow;").before args s = true := hts _ (List.mem_of_getElem? (i := 1) rfl)
  have hiX7 : ∀ w ∈ wsX70, w ∈ wsX7_scan := fun w h => List.mem_cons_of_mem _ (List.mem_append_left _ (List.mem_append_left _ (List.mem_append_left _ (List.mem_append_left _ (List.mem_append_left _ (List.mem_append_right _ h))))))
  have hf89 : (Cond.fieldLink RX7 89 "KeywordMatcher$ByteRow" "length" "I").before args s = true := hts _ (List.mem_of_getElem? (i := 2) rfl)
  have hiX1 : ∀ w ∈ wsX10, w ∈ wsX7_scan := fun w h => List.mem_cons_of_mem _ (List.mem_append_left _ (List.mem_append_left _ (List.mem_append_left _ (List.mem_append_left _ (List.mem_append_right _ h)))))
  have hf86 : (Cond.fieldLink RX7 86 "KeywordMatcher" "reported" "I").before args s = true := hts _ (List.mem_of_getElem? (i := 3) rfl)
  have hf21 : (Cond.fieldLink RX7 21 "KeywordMatcher" "buffer" "LKeywordMatcher$ByteRow;").before args s = true := hts _ (List.mem_of_getElem? (i := 4) rfl)
  subst hsz
  have hD := hD0.self (sz := s.heap.size)
  generalize hAe : va_A (wK cI cZ cJ ad x_work x_rebuilds x_reported x_folding_on x_buffer_length a_buffer_bytes x_keywords_given x_keywords_alive a_keywords_bytes a_keywords_lengths a_keywords_weights a_keywords_lives x_mainSet_count a_mainSet_members x_removalSet_count a_removalSet_members x_superstring_slots x_superstring_built b_superstring_sw a_superstring_starts a_superstring_lengths a_superstring_overlaps x_superstring_area_length a_superstring_area_bytes x_superstring_spare_length a_superstring_spare_bytes x_stream_length a_stream_bytes a_matches_words x_reports_size a_reports_positions a_reports_numbers x_chosen_size a_chosen_positions a_chosen_numbers a_depths a_bestFrom) s.heap.size = Az at hD ⊢
  have hA : ∀ q : Nat, s.heap.size ≤ q → Az q := fun q h => by rw [← hAe]; exact Or.inr h
  clear hAe
  have hSz : va_S Az s.heap s.heap [] := va_S.rf
  obtain ⟨wz, hw1⟩ : ∃ z : va_W, z = (wK cI cZ cJ ad x_work x_rebuilds y_x_reported x_folding_on y_x_buffer_length a_buffer_bytes x_keywords_given x_keywords_alive a_keywords_bytes a_keywords_lengths a_keywords_weights a_keywords_lives x_mainSet_count a_mainSet_members x_removalSet_count a_removalSet_members x_superstring_slots x_superstring_built b_superstring_sw a_superstring_starts a_superstring_lengths a_superstring_overlaps x_superstring_area_length a_superstring_area_bytes x_superstring_spare_length a_superstring_spare_bytes y_x_stream_length y_a_stream_bytes y_a_matches_words y_x_reports_size y_a_reports_positions y_a_reports_numbers x_chosen_size a_chosen_positions a_chosen_numbers a_depths a_bestFrom) := ⟨_, rfl⟩
  rw [← hw1]
  have hl := lv_entry ([.ref (ad 0), .int (iI pz1)]) (n := 5) (Nat.le_of_ble_eq_true rfl)
  rw [show entryFrame m args 5 = entryFrame m ([.ref (ad 0), .int (iI pz1)] : List Value).toArray 5 from by rw [hav], lg_entry_eq]
  generalize (lg_sl ([.ref (ad 0), .int (iI pz1)]) ++ List.replicate (5 - (lg_sl ([.ref (ad 0), .int (iI pz1)])).length) Slot.unset).toArray = ls at hl ⊢
  have hl : lv_has ls 5 [(0, .ref (ad 0)), (1, .int (iI pz1))] := hl
  unfold s_X7_scan at hs
  have Lz40 : ∀ (fu : Nat) (x_reported : Int) (x_buffer_length : Int) (x_stream_length : Int) (a_stream_bytes : (Int → Int)) (a_matches_words : (Int → Int)) (x_reports_size : Int) (a_reports_positions : (Int → Int)) (a_reports_numbers : (Int → Int)) (l1 : Int) (l2 : Int) (l3 : Int) (l4 : Int) (y0 : Int) (y1 : Int) (y2 : (Int → Int)) (y3 : (Int → Int)) (y4 : Int) (y5 : (Int → Int)) (y6 : (Int → Int)), s_X7_scan_40 fu x_reported x_folding_on x_buffer_length a_buffer_bytes x_keywords_given a_keywords_bytes a_keywords_lengths a_keywords_lives x_stream_length a_stream_bytes a_matches_words x_reports_size a_reports_positions a_reports_numbers l1 l2 l3 l4 = some (y0, y1, y2, y3, y4, y5, y6) → ∀ (Hz : Heap) (lz : List Loc), va_P D vwCl (wK cI cZ cJ ad x_work x_rebuilds x_reported x_folding_on x_buffer_length a_buffer_bytes x_keywords_given x_keywords_alive a_keywords_bytes a_keywords_lengths a_keywords_weights a_keywords_lives x_mainSet_count a_mainSet_members x_removalSet_count a_removalSet_members x_superstring_slots x_superstring_built b_superstring_sw a_superstring_starts a_superstring_lengths a_superstring_overlaps x_superstring_area_length a_superstring_area_bytes x_superstring_spare_length a_superstring_spare_bytes x_stream_length a_stream_bytes a_matches_words x_reports_size a_reports_positions a_reports_numbers x_chosen_size a_chosen_positions a_chosen_numbers a_depths a_bestFrom) Hz → va_D Az (wK cI cZ cJ ad x_work x_rebuilds x_reported x_folding_on x_buffer_length a_buffer_bytes x_keywords_given x_keywords_alive a_keywords_bytes a_keywords_lengths a_keywords_weights a_keywords_lives x_mainSet_count a_mainSet_members x_removalSet_count a_removalSet_members x_superstring_slots x_superstring_built b_superstring_sw a_superstring_starts a_superstring_lengths a_superstring_overlaps x_superstring_area_length a_superstring_area_bytes x_superstring_spare_length a_superstring_spare_bytes x_stream_length a_stream_bytes a_matches_words x_reports_size a_reports_positions a_reports_numbers x_chosen_size a_chosen_positions a_chosen_numbers a_depths a_bestFrom) → va_S Az s.heap Hz lz → ∀ ls : Array Slot, lv_has ls 5 [(0, .ref (ad 0)), (1, .int (iI l1)), (2, .int (iI l2)), (3, .int (iI l3)), (4, .int (iI l4))] → (∀ (Hz : Heap) (lz : List Loc), va_P D vwCl (wK cI cZ cJ ad x_work x_rebuilds y0 x_folding_on x_buffer_length a_buffer_bytes x_keywords_given x_keywords_alive a_keywords_bytes a_keywords_lengths a_keywords_weights a_keywords_lives x_mainSet_count a_mainSet_members x_removalSet_count a_removalSet_members x_superstring_slots x_superstring_built b_superstring_sw a_superstring_starts a_superstring_lengths a_superstring_overlaps x_superstring_area_length a_superstring_area_bytes x_superstring_spare_length a_superstring_spare_bytes y1 y2 y3 y4 y5 y6 x_chosen_size a_chosen_positions a_chosen_numbers a_depths a_bestFrom) Hz → va_D Az (wK cI cZ cJ ad x_work x_rebuilds y0 x_folding_on x_buffer_length a_buffer_bytes x_keywords_given x_keywords_alive a_keywords_bytes a_keywords_lengths a_keywords_weights a_keywords_lives x_mainSet_count a_mainSet_members x_removalSet_count a_removalSet_members x_superstring_slots x_superstring_built b_superstring_sw a_superstring_starts a_superstring_lengths a_superstring_overlaps x_superstring_area_length a_superstring_area_bytes x_superstring_spare_length a_superstring_spare_bytes y1 y2 y3 y4 y5 y6 x_chosen_size a_chosen_positions a_chosen_numbers a_depths a_bestFrom) → va_S Az s.heap Hz lz → ∀ ls : Array Slot, lv_has ls 5 [(0, .ref (ad 0)), (2, .int (iI l2)), (3, .int (iI l3))] → W p l e (headSpec wsX7_scan rm_X7_scan).room s m args below meth c Hz lz 0 0 (MQ below (QW D vwCl (some (.int (iI r))) wz Az) args s 0 0 Az) (F0 m 80 ls [])) → W p l e (headSpec wsX7_scan rm_X7_scan).room s m args below meth c Hz lz 0 0 (MQ below (QW D vwCl (some (.int (iI r))) wz Az) args s 0 0 Az) (F0 m 40 ls []) := by
    intro fu
    induction fu with
    | zero => intro x_reported x_buffer_length x_stream_length a_stream_bytes a_matches_words x_reports_size a_reports_positions a_reports_numbers l1 l2 l3 l4 y0 y1 y2 y3 y4 y5 y6 hs; cases hs
    | succ fu ih =>
      intro x_reported x_buffer_length x_stream_length a_stream_bytes a_matches_words x_reports_size a_reports_positions a_reports_numbers l1 l2 l3 l4 y0 y1 y2 y3 y4 y5 y6 hs Hz lz hP hD hSz ls hl kx
      rw [s_X7_scan_40_s] at hs
      refine lv_iload hx hb dX7_scan_40 (lv_at hl 4 rfl) ?_
      refine lv_iload_n hx hb dX7_scan_42 rfl (lv_at hl 1 rfl) ?_
      refine k_icmp_ge (tgt := 80) hx hb hs dX7_scan_43 (by decide) (fun hs => ?_) (fun hs => ?_)
      · refine lv_iload_n hx hb dX7_scan_46 rfl (lv_at hl 2 rfl) ?_
        refine k_if_eq (tgt := 80) hx hb hs dX7_scan_47 (by decide) (fun hs => ?_) (fun hs => ?_)
        · cases hs
          exact kx Hz lz hP hD hSz ls (lv_sub hl [0, 2, 3] rfl)
        · refine lv_aload_n hx hb dX7_scan_50 rfl (lv_at hl 0 rfl) ?_
          refine va_get (ci := 7) (v := .ref (ad 21)) (C := RX7) (T := TX7) (N := 15) hx hb hts hiX7 hown hK hP 0 rfl rfl 6 (by decide) hf51 (fun _ h9 => h9) rfl dX7_scan_51 ?_
          refine lv_aload_n hx hb dX7_scan_54 rfl (lv_at hl 0 rfl) ?_
          refine va_get (ci := 7) (v := .ref (ad 2)) (C := RX7) (T := TX7) (N := 15) hx hb hts hiX7 hown hK hP 0 rfl rfl 1 (by decide) hf21 (fun _ h9 => h9) rfl dX7_scan_55 ?_
          refine lv_iload hx hb dX7_scan_58 (lv_at hl 4 rfl) ?_
          obtain ⟨vz2, hcz, hs⟩ := bd1_some hs
          have hPc : va_P D vwCl [((ad 2), .inr (1, [.ref (ad 3), .int (iI x_buffer_length)])), ((ad 3), .inl (cI, 200, .inl (mI a_buffer_bytes)))] Hz := hP.sub [2, 3] rfl
          refine k_rV (As := [.int (iI l4)]) (rest := [.ref (ad 21)]) (st1 := [.int (iI vz2), .ref (ad 21)]) ⟨hx, hb, hml, hown, hts⟩ hK hPc (c_X1_at l D cI cZ cJ (Nat.le_of_ble_eq_true rfl) hcz) (cwV 1 hts gX7_scan_X1_at rfl rfl rfl (by decide +kernel) ⟨Nat.le_of_ble_eq_true rfl, Nat.le_of_ble_eq_true rfl⟩) 0 rfl rfl rfl rfl hl.1 rfl (lv_room (Nat.le_of_ble_eq_true rfl)) dX7_scan_60 ⟨Nat.zero_le _, Nat.zero_le _⟩ rfl ?_
          obtain ⟨vz3, vz4, hcz, hs⟩ := bd2_some hs
          refine k_wV (As := [.int (iI vz2)]) (rest := []) (st1 := []) (wc := [((ad 21), .inr (1, [.ref (ad 22), .int (iI x_stream_length)])), ((ad 22), .inl (cI, 600, .inl (mI a_stream_bytes)))]) (w1 := [((ad 21), .inr (1, [.ref (ad 22), .int (iI vz3)])), ((ad 22), .inl (cI, 600, .inl (mI vz4)))]) ⟨hx, hb, hml, hown, hts⟩ hK hP hD hSz hA [21, 22] rfl (by decide) (c_X1_append l D cI cZ cJ (Nat.le_of_ble_eq_true rfl) hcz) (cwV 1 hts gX7_scan_X1_append rfl rfl rfl (by decide +kernel) ⟨Nat.le_of_ble_eq_true rfl, Nat.le_of_ble_eq_true rfl⟩) 21 rfl rfl rfl rfl rfl hl.1 rfl (lv_room (Nat.le_of_ble_eq_true rfl)) dX7_scan_63 ⟨Nat.zero_le _, Nat.zero_le _⟩ rfl (fun Hz lz hP hD hSz => ?_)
          have hP : va_P D vwCl (wK cI cZ cJ ad x_work x_rebuilds x_reported x_folding_on x_buffer_length a_buffer_bytes x_keywords_given x_keywords_alive a_keywords_bytes a_keywords_lengths a_keywords_weights a_keywords_lives x_mainSet_count a_mainSet_members x_removalSet_count a_removalSet_members x_superstring_slots x_superstring_built b_superstring_sw a_superstring_starts a_superstring_lengths a_superstring_overlaps x_superstring_area_length a_superstring_area_bytes x_superstring_spare_length a_superstring_spare_bytes vz3 vz4 a_matches_words x_reports_size a_reports_positions a_reports_numbers x_chosen_size a_chosen_positions a_chosen_numbers a_depths a_bestFrom) Hz := hP
          have hD : va_D Az (wK cI cZ cJ ad x_work x_rebuilds x_reported x_folding_on x_buffer_length a_buffer_bytes x_keywords_given x_keywords_alive a_keywords_bytes a_keywords_lengths a_keywords_weights a_keywords_lives x_mainSet_count a_mainSet_members x_removalSet_count a_removalSet_members x_superstring_slots x_superstring_built b_superstring_sw a_superstring_starts a_superstring_lengths a_superstring_overlaps x_superstring_area_length a_superstring_area_bytes x_superstring_spare_length a_superstring_spare_bytes vz3 vz4 a_matches_words x_reports_size a_reports_positions a_reports_numbers x_chosen_size a_chosen_positions a_chosen_numbers a_depths a_bestFrom) := hD
          refine lv_aload_n hx hb dX7_scan_66 rfl (lv_at hl 0 rfl) ?_
          obtain ⟨vz5, hcz, hs⟩ := bd1_some hs
          refine k_wVs (As := []) (rest := []) (st1 := []) (w1 := (wK cI cZ cJ ad x_work x_rebuilds x_reported x_folding_on x_buffer_length a_buffer_bytes x_keywords_given x_keywords_alive a_keywords_bytes a_keywords_lengths a_keywords_weights a_keywords_lives x_mainSet_count a_mainSet_members x_removalSet_count a_removalSet_members x_superstring_slots x_superstring_built b_superstring_sw a_superstring_starts a_superstring_lengths a_superstring_overlaps x_superstring_area_length a_superstring_area_bytes x_superstring_spare_length a_superstring_spare_bytes vz3 vz4 vz5 x_reports_size a_reports_positions a_reports_numbers x_chosen_size a_chosen_positions a_chosen_numbers a_depths a_bestFrom)) ⟨hx, hb, hml, hown, hts⟩ hK hP hD hSz hA (c_X7_noteMatchesAtEnd l D cI cZ cJ hcz) (cwV 0 hts gX7_scan_X7_noteMatchesAtEnd rfl rfl rfl (by decide +kernel) ⟨Nat.le_of_ble_eq_true rfl, Nat.le_of_ble_eq_true rfl⟩) 0 rfl rfl rfl rfl rfl hl.1 rfl (lv_room (Nat.le_of_ble_eq_true rfl)) dX7_scan_67 ⟨Nat.zero_le _, Nat.zero_le _⟩ rfl (fun Hz lz hP hD hSz => ?_)
          have hP : va_P D vwCl (wK cI cZ cJ ad x_work x_rebuilds x_reported x_folding_on x_buffer_length a_buffer_bytes x_keywords_given x_keywords_alive a_keywords_bytes a_keywords_lengths a_keywords_weights a_keywords_lives x_mainSet_count a_mainSet_members x_removalSet_count a_removalSet_members x_superstring_slots x_superstring_built b_superstring_sw a_superstring_starts a_superstring_lengths a_superstring_overlaps x_superstring_area_length a_superstring_area_bytes x_superstring_spare_length a_superstring_spare_bytes vz3 vz4 vz5 x_reports_size a_reports_positions a_reports_numbers x_chosen_size a_chosen_positions a_chosen_numbers a_depths a_bestFrom) Hz := hP
          have hD : va_D Az (wK cI cZ cJ ad x_work x_rebuilds x_reported x_folding_on x_buffer_length a_buffer_bytes x_keywords_given x_keywords_alive a_keywords_bytes a_keywords_lengths a_keywords_weights a_keywords_lives x_mainSet_count a_mainSet_members x_removalSet_count a_removalSet_members x_superstring_slots x_superstring_built b_superstring_sw a_superstring_starts a_superstring_lengths a_superstring_overlaps x_superstring_area_length a_superstring_area_bytes x_superstring_spare_length a_superstring_spare_bytes vz3 vz4 vz5 x_reports_size a_reports_positions a_reports_numbers x_chosen_size a_chosen_positions a_chosen_numbers a_depths a_bestFrom) := hD
          refine lv_aload_n hx hb dX7_scan_70 rfl (lv_at hl 0 rfl) ?_
          obtain ⟨vz6, vz7, vz8, vz9, hcz, hs⟩ := bd4_some hs
          refine k_wVs (As := []) (rest := []) (st1 := []) (w1 := (wK cI cZ cJ ad x_work x_rebuilds vz6 x_folding_on x_buffer_length a_buffer_bytes x_keywords_given x_keywords_alive a_keywords_bytes a_keywords_lengths a_keywords_weights a_keywords_lives x_mainSet_count a_mainSet_members x_removalSet_count a_removalSet_members x_superstring_slots x_superstring_built b_superstring_sw a_superstring_starts a_superstring_lengths a_superstring_overlaps x_superstring_area_length a_superstring_area_bytes x_superstring_spare_length a_superstring_spare_bytes vz3 vz4 vz5 vz7 vz8 vz9 x_chosen_size a_chosen_positions a_chosen_numbers a_depths a_bestFrom)) ⟨hx, hb, hml, hown, hts⟩ hK hP hD hSz hA (c_X7_reportMatchesAtEnd l D cI cZ cJ hcz) (cwV 0 hts gX7_scan_X7_reportMatchesAtEnd rfl rfl rfl (by decide +kernel) ⟨Nat.le_of_ble_eq_true rfl, Nat.le_of_ble_eq_true rfl⟩) 0 rfl rfl rfl rfl rfl hl.1 rfl (lv_room (Nat.le_of_ble_eq_true rfl)) dX7_scan_71 ⟨Nat.zero_le _, Nat.zero_le _⟩ rfl (fun Hz lz hP hD hSz => ?_)
          have hP : va_P D vwCl (wK cI cZ cJ ad x_work x_rebuilds vz6 x_folding_on x_buffer_length a_buffer_bytes x_keywords_given x_keywords_alive a_keywords_bytes a_keywords_lengths a_keywords_weights a_keywords_lives x_mainSet_count a_mainSet_members x_removalSet_count a_removalSet_members x_superstring_slots x_superstring_built b_superstring_sw a_superstring_starts a_superstring_lengths a_superstring_overlaps x_superstring_area_length a_superstring_area_bytes x_superstring_spare_length a_superstring_spare_bytes vz3 vz4 vz5 vz7 vz8 vz9 x_chosen_size a_chosen_positions a_chosen_numbers a_depths a_bestFrom) Hz := hP
          have hD : va_D Az (wK cI cZ cJ ad x_work x_rebuilds vz6 x_folding_on x_buffer_length a_buffer_bytes x_keywords_given x_keywords_alive a_keywords_bytes a_keywords_lengths a_keywords_weights a_keywords_lives x_mainSet_count a_mainSet_members x_removalSet_count a_removalSet_members x_superstring_slots x_superstring_built b_superstring_sw a_superstring_starts a_superstring_lengths a_superstring_overlaps x_superstring_area_length a_superstring_area_bytes x_superstring_spare_length a_superstring_spare_bytes vz3 vz4 vz5 vz7 vz8 vz9 x_chosen_size a_chosen_positions a_chosen_numbers a_depths a_bestFrom) := hD
          refine k_iinc (x := l4) (k := 4) (lv' := [(4, .int (iI (l4 + 1))), (0, .ref (ad 0)), (1, .int (iI l1)), (2, .int (iI l2)), (3, .int (iI l3))]) hx hb dX7_scan_74 hl rfl (by decide) rfl (fun ls hl => ?_)
          refine lv_goto (tgt := 40) hx hb dX7_scan_77 (by decide) ?_
          exact ih vz6 x_buffer_length vz3 vz4 vz5 vz7 vz8 vz9 l1 l2 l3 (l4 + 1) y0 y1 y2 y3 y4 y5 y6 hs Hz lz hP hD hSz ls (lv_sub hl [1, 2, 3, 4, 0] rfl) kx
      · cases hs
        exact kx Hz lz hP hD hSz ls (lv_sub hl [0, 2, 3] rfl)
  refine (?_ : ∀ (Hz : Heap) (lz : List Loc), va_P D vwCl (wK cI cZ cJ ad x_work x_rebuilds x_reported x_folding_on x_buffer_length a_buffer_bytes x_keywords_given x_keywords_alive a_keywords_bytes a_keywords_lengths a_keywords_weights a_keywords_lives x_mainSet_count a_mainSet_members x_removalSet_count a_removalSet_members x_superstring_slots x_superstring_built b_superstring_sw a_superstring_starts a_superstring_lengths a_superstring_overlaps x_superstring_area_length a_superstring_area_bytes x_superstring_spare_length a_superstring_spare_bytes x_stream_length a_stream_bytes a_matches_words x_reports_size a_reports_positions a_reports_numbers x_chosen_size a_chosen_positions a_chosen_numbers a_depths a_bestFrom) Hz → va_D Az (wK cI cZ cJ ad x_work x_rebuilds x_reported x_folding_on x_buffer_length a_buffer_bytes x_keywords_given x_keywords_alive a_keywords_bytes a_keywords_lengths a_keywords_weights a_keywords_lives x_mainSet_count a_mainSet_members x_removalSet_count a_removalSet_members x_superstring_slots x_superstring_built b_superstring_sw a_superstring_starts a_superstring_lengths a_superstring_overlaps x_superstring_area_length a_superstring_area_bytes x_superstring_spare_length a_superstring_spare_bytes x_stream_length a_stream_bytes a_matches_words x_reports_size a_reports_positions a_reports_numbers x_chosen_size a_chosen_positions a_chosen_numbers a_depths a_bestFrom) → va_S Az s.heap Hz lz → W p l e (headSpec wsX7_scan rm_X7_scan).room s m args below meth c Hz lz 0 0 (MQ below (QW D vwCl (some (.int (iI r))) wz Az) args s 0 0 Az) (F0 m 0 ls [])) s.heap [] hP hD hSz
  intro Hz lz hP hD hSz
  refine lv_aload_n hx hb dX7_scan_0 rfl (lv_at hl 0 rfl) ?_
  refine lv_iload_n hx hb dX7_scan_1 rfl (lv_at hl 1 rfl) ?_
  obtain ⟨vz1, hcz, hs⟩ := bd1_some hs
  refine k_rV (As := [.int (iI pz1)]) (rest := []) (st1 := [.int (iI vz1)]) ⟨hx, hb, hml, hown, hts⟩ hK hP (c_X7_isBufferPart l D cI cZ cJ hcz) (cwV 1 hts gX7_scan_X7_isBufferPart rfl rfl rfl (by decide +kernel) ⟨Nat.le_of_ble_eq_true rfl, Nat.le_of_ble_eq_true rfl⟩) 0 rfl rfl rfl rfl hl.1 rfl (lv_room (Nat.le_of_ble_eq_true rfl)) dX7_scan_2 ⟨Nat.zero_le _, Nat.zero_le _⟩ rfl ?_
  refine k_if_ne (tgt := 11) hx hb hs dX7_scan_5 (by decide) (fun hs => ?_) (fun hs => ?_)
  · refine k_bipush (n := (-3)) hx hb (by decide) dX7_scan_8 ?_
    cases hs
    exact k_iret_w hx hb hr hlk (by rw [hw1]; exact hP) hSz dX7_scan_10 rfl
  · refine lv_iload_n hx hb dX7_scan_11 rfl (lv_at hl 1 rfl) ?_
    refine k_sipush (n := 600) hx hb (by decide) dX7_scan_12 ?_
    refine lv_aload_n hx hb dX7_scan_15 rfl (lv_at hl 0 rfl) ?_
    refine va_get (ci := 7) (v := .ref (ad 21)) (C := RX7) (T := TX7) (N := 15) hx hb hts hiX7 hown hK hP 0 rfl rfl 6 (by decide) hf51 (fun _ h9 => h9) rfl dX7_scan_16 ?_
    refine va_get (ci := 1) (v := .int (iI x_stream_length)) (C := RX1) (T := TX1) (N := 2) hx hb hts hiX1 hown hK hP 21 rfl rfl 1 (by decide) hf89 (fun _ h9 => h9) rfl dX7_scan_19 ?_
    refine k_isub hx hb dX7_scan_22 ?_
    refine k_icmp_gt (tgt := 30) hx hb hs dX7_scan_23 (by decide) (fun hs => ?_) (fun hs => ?_)
    · refine k_iconst (n := 0) hx hb dX7_scan_30 ?_
      refine lv_istore_n (lv' := [(2, .int (iI 0)), (0, .ref (ad 0)), (1, .int (iI pz1))]) hx hb dX7_scan_31 rfl hl (by decide) rfl (fun ls hl => ?_)
      refine lv_aload_n hx hb dX7_scan_32 rfl (lv_at hl 1 rfl) ?_
      refine va_get (ci := 7) (v := .int (iI x_reported)) (C := RX7) (T := TX7) (N := 15) hx hb hts hiX7 hown hK hP 0 rfl rfl 14 (by decide) hf86 (fun _ h9 => h9) rfl dX7_scan_33 ?_
      refine lv_istore_n (lv' := [(3, .int (iI x_reported)), (2, .int (iI 0)), (0, .ref (ad 0)), (1, .int (iI pz1))]) hx hb dX7_scan_36 rfl hl (by decide) rfl (fun ls hl => ?_)
      refine k_iconst (n := 0) hx hb dX7_scan_37 ?_
      refine lv_istore (lv' := [(4, .int (iI 0)), (3, .int (iI x_reported)), (2, .int (iI 0)), (0, .ref (ad 0)), (1, .int (iI pz1))]) hx hb dX7_scan_38 hl (by decide) rfl (fun ls hl => ?_)
      obtain ⟨ez10, ez11, ez12, ez13, ez14, ez15, ez16, hq, hs⟩ := bd7_some hs
      refine Lz40 FU x_reported x_buffer_length x_stream_length a_stream_bytes a_matches_words x_reports_size a_reports_positions a_reports_numbers pz1 0 x_reported 0 ez10 ez11 ez12 ez13 ez14 ez15 ez16 hq Hz lz hP hD hSz ls (lv_sub hl [3, 4, 2, 1, 0] rfl) ?_
      intro Hz lz hP hD hSz ls hl
      refine lv_aload_n hx hb dX7_scan_80 rfl (lv_at hl 0 rfl) ?_
      refine va_get (ci := 7) (v := .ref (ad 2)) (C := RX7) (T := TX7) (N := 15) hx hb hts hiX7 hown hK hP 0 rfl rfl 1 (by decide) hf21 (fun _ h9 => h9) rfl dX7_scan_81 ?_
      obtain ⟨vz17, hcz, hs⟩ := bd1_some hs
      refine k_wV (As := []) (rest := []) (st1 := []) (wc := [((ad 2), .inr (1, [.ref (ad 3), .int (iI x_buffer_length)])), ((ad 3), .inl (cI, 200, .inl (mI a_buffer_bytes)))]) (w1 := [((ad 2), .inr (1, [.ref (ad 3), .int (iI vz17)])), ((ad 3), .inl (cI, 200, .inl (mI a_buffer_bytes)))]) ⟨hx, hb, hml, hown, hts⟩ hK hP hD hSz hA [2, 3] rfl (by decide) (c_X1_clear l D cI cZ cJ (Nat.le_of_ble_eq_true rfl) hcz) (cwV 0 hts gX7_scan_X1_clear rfl rfl rfl (by decide +kernel) ⟨Nat.le_of_ble_eq_true rfl, Nat.le_of_ble_eq_true rfl⟩) 2 rfl rfl rfl rfl rfl hl.1 rfl (lv_room (Nat.le_of_ble_eq_true rfl)) dX7_scan_84 ⟨Nat.zero_le _, Nat.zero_le _⟩ rfl (fun Hz lz hP hD hSz => ?_)
      have hP : va_P D vwCl (wK cI cZ cJ ad x_work x_rebuilds ez10 x_folding_on vz17 a_buffer_bytes x_keywords_given x_keywords_alive a_keywords_bytes a_keywords_lengths a_keywords_weights a_keywords_lives x_mainSet_count a_mainSet_members x_removalSet_count a_removalSet_members x_superstring_slots x_superstring_built b_superstring_sw a_superstring_starts a_superstring_lengths a_superstring_overlaps x_superstring_area_length a_superstring_area_bytes x_superstring_spare_length a_superstring_spare_bytes ez11 ez12 ez13 ez14 ez15 ez16 x_chosen_size a_chosen_positions a_chosen_numbers a_depths a_bestFrom) Hz := hP
      have hD : va_D Az (wK cI cZ cJ ad x_work x_rebuilds ez10 x_folding_on vz17 a_buffer_bytes x_keywords_given x_keywords_alive a_keywords_bytes a_keywords_lengths a_keywords_weights a_keywords_lives x_mainSet_count a_mainSet_members x_removalSet_count a_removalSet_members x_superstring_slots x_superstring_built b_superstring_sw a_superstring_starts a_superstring_lengths a_superstring_overlaps x_superstring_area_length a_superstring_area_bytes x_superstring_spare_length a_superstring_spare_bytes ez11 ez12 ez13 ez14 ez15 ez16 x_chosen_size a_chosen_positions a_chosen_numbers a_depths a_bestFrom) := hD
      refine lv_iload_n hx hb dX7_scan_87 rfl (lv_at hl 1 rfl) ?_
      refine k_if_eq (tgt := 100) hx hb hs dX7_scan_88 (by decide) (fun hs => ?_) (fun hs => ?_)
      · refine k_bipush (n := (-6)) hx hb (by decide) dX7_scan_100 ?_
        cases hs
        exact k_iret_w hx hb hr hlk (by rw [hw1]; exact hP) hSz dX7_scan_102 rfl
      · refine lv_aload_n hx hb dX7_scan_91 rfl (lv_at hl 0 rfl) ?_
        refine va_get (ci := 7) (v := .int (iI ez10)) (C := RX7) (T := TX7) (N := 15) hx hb hts hiX7 hown hK hP 0 rfl rfl 14 (by decide) hf86 (fun _ h9 => h9) rfl dX7_scan_92 ?_
        refine lv_iload_n hx hb dX7_scan_95 rfl (lv_at hl 2 rfl) ?_
        refine k_isub hx hb dX7_scan_96 ?_
        refine lv_goto (tgt := 102) hx hb dX7_scan_97 (by decide) ?_
        cases hs
        exact k_iret_w hx hb hr hlk (by rw [hw1]; exact hP) hSz dX7_scan_102 rfl
    · refine k_iconst (n := 1) hx hb dX7_scan_26 ?_
      refine lv_goto (tgt := 31) hx hb dX7_scan_27 (by decide) ?_
      refine lv_istore_n (lv' := [(2, .int (iI 1)), (0, .ref (ad 0)), (1, .int (iI pz1))]) hx hb dX7_scan_31 rfl hl (by decide) rfl (fun ls hl => ?_)
      refine lv_aload_n hx hb dX7_scan_32 rfl (lv_at hl 1 rfl) ?_
      refine va_get (ci := 7) (v := .int (iI x_reported)) (C := RX7) (T := TX7) (N := 15) hx hb hts hiX7 hown hK hP 0 rfl rfl 14 (by decide) hf86 (fun _ h9 => h9) rfl dX7_scan_33 ?_
      refine lv_istore_n (lv' := [(3, .int (iI x_reported)), (2, .int (iI 1)), (0, .ref (ad 0)), (1, .int (iI pz1))]) hx hb dX7_scan_36 rfl hl (by decide) rfl (fun ls hl => ?_)
      refine k_iconst (n := 0) hx hb dX7_scan_37 ?_
      refine lv_istore (lv' := [(4, .int (iI 0)), (3, .int (iI x_reported)), (2, .int (iI 1)), (0, .ref (ad 0)), (1, .int (iI pz1))]) hx hb dX7_scan_38 hl (by decide) rfl (fun ls hl => ?_)
      obtain ⟨ez18, ez19, ez20, ez21, ez22, ez23, ez24, hq, hs⟩ := bd7_some hs
      refine Lz40 FU x_reported x_buffer_length x_stream_length a_stream_bytes a_matches_words x_reports_size a_reports_positions a_reports_numbers pz1 1 x_reported 0 ez18 ez19 ez20 ez21 ez22 ez23 ez24 hq Hz lz hP hD hSz ls (lv_sub hl [3, 4, 2, 1, 0] rfl) ?_
      intro Hz lz hP hD hSz ls hl
      refine lv_aload_n hx hb dX7_scan_80 rfl (lv_at hl 0 rfl) ?_
      refine va_get (ci := 7) (v := .ref (ad 2)) (C := RX7) (T := TX7) (N := 15) hx hb hts hiX7 hown hK hP 0 rfl rfl 1 (by decide) hf21 (fun _ h9 => h9) rfl dX7_scan_81 ?_
      obtain ⟨vz25, hcz, hs⟩ := bd1_some hs
      refine k_wV (As := []) (rest := []) (st1 := []) (wc := [((ad 2), .inr (1, [.ref (ad 3), .int (iI x_buffer_length)])), ((ad 3), .inl (cI, 200, .inl (mI a_buffer_bytes)))]) (w1 := [((ad 2), .inr (1, [.ref (ad 3), .int (iI vz25)])), ((ad 3), .inl (cI, 200, .inl (mI a_buffer_bytes)))]) ⟨hx, hb, hml, hown, hts⟩ hK hP hD hSz hA [2, 3] rfl (by decide) (c_X1_clear l D cI cZ cJ (Nat.le_of_ble_eq_true rfl) hcz) (cwV 0 hts gX7_scan_X1_clear rfl rfl rfl (by decide +kernel) ⟨Nat.le_of_ble_eq_true rfl, Nat.le_of_ble_eq_true rfl⟩) 2 rfl rfl rfl rfl rfl hl.1 rfl (lv_room (Nat.le_of_ble_eq_true rfl)) dX7_scan_84 ⟨Nat.zero_le _, Nat.zero_le _⟩ rfl (fun Hz lz hP hD hSz => ?_)
      have hP : va_P D vwCl (wK cI cZ cJ ad x_work x_rebuilds ez18 x_folding_on vz25 a_buffer_bytes x_keywords_given x_keywords_alive a_keywords_bytes a_keywords_lengths a_keywords_weights a_keywords_lives x_mainSet_count a_mainSet_members x_removalSet_count a_removalSet_members x_superstring_slots x_superstring_built b_superstring_sw a_superstring_starts a_superstring_lengths a_superstring_overlaps x_superstring_area_length a_superstring_area_bytes x_superstring_spare_length a_superstring_spare_bytes ez19 ez20 ez21 ez22 ez23 ez24 x_chosen_size a_chosen_positions a_chosen_numbers a_depths a_bestFrom) Hz := hP
      have hD : va_D Az (wK cI cZ cJ ad x_work x_rebuilds ez18 x_folding_on vz25 a_buffer_bytes x_keywords_given x_keywords_alive a_keywords_bytes a_keywords_lengths a_keywords_weights a_keywords_lives x_mainSet_count a_mainSet_members x_removalSet_count a_removalSet_members x_superstring_slots x_superstring_built b_superstring_sw a_superstring_starts a_superstring_lengths a_superstring_overlaps x_superstring_area_length a_superstring_area_bytes x_superstring_spare_length a_superstring_spare_bytes ez19 ez20 ez21 ez22 ez23 ez24 x_chosen_size a_chosen_positions a_chosen_numbers a_depths a_bestFrom) := hD
      refine lv_iload_n hx hb dX7_scan_87 rfl (lv_at hl 1 rfl) ?_
      refine k_if_eq (tgt := 100) hx hb hs dX7_scan_88 (by decide) (fun hs => ?_) (fun hs => ?_)
      · refine k_bipush (n := (-6)) hx hb (by decide) dX7_scan_100 ?_
        cases hs
        exact k_iret_w hx hb hr hlk (by rw [hw1]; exact hP) hSz dX7_scan_102 rfl
      · refine lv_aload_n hx hb dX7_scan_91 rfl (lv_at hl 0 rfl) ?_
        refine va_get (ci := 7) (v := .int (iI ez18)) (C := RX7) (T := TX7) (N := 15) hx hb hts hiX7 hown hK hP 0 rfl rfl 14 (by decide) hf86 (fun _ h9 => h9) rfl dX7_scan_92 ?_
        refine lv_iload_n hx hb dX7_scan_95 rfl (lv_at hl 2 rfl) ?_
        refine k_isub hx hb dX7_scan_96 ?_
        refine lv_goto (tgt := 102) hx hb dX7_scan_97 (by decide) ?_
        cases hs
        exact k_iret_w hx hb hr hlk (by rw [hw1]; exact hP) hSz dX7_scan_102 rfl
/-! X7_resetStream -/
set_option maxHeartbeats 4000000 in
set_option maxRecDepth 100000 in
theorem c_X7_resetStream (l : Launch) (D : va_G) (cI cZ cJ : ClassId) {ad : Nat → Nat} {x_work : Int} {x_rebuilds : Int} {x_reported : Int} {x_folding_on : Int} {x_buffer_length : Int} {a_buffer_bytes : (Int → Int)} {x_keywords_given : Int} {x_keywords_alive : Int} {a_keywords_bytes : (Int → Int)} {a_keywords_lengths : (Int → Int)} {a_keywords_weights : (Int → Int)} {a_keywords_lives : (Int → Int)} {x_mainSet_count : Int} {a_mainSet_members : (Int → Int)} {x_removalSet_count : Int} {a_removalSet_members : (Int → Int)} {x_superstring_slots : Int} {x_superstring_built : Int} {b_superstring_sw : Bool} {a_superstring_starts : (Int → Int)} {a_superstring_lengths : (Int → Int)} {a_superstring_overlaps : (Int → Int)} {x_superstring_area_length : Int} {a_superstring_area_bytes : (Int → Int)} {x_superstring_spare_length : Int} {a_superstring_spare_bytes : (Int → Int)} {x_stream_length : Int} {a_stream_bytes : (Int → Int)} {a_matches_words : (Int → Int)} {x_reports_size : Int} {a_reports_positions : (Int → Int)} {a_reports_numbers : (Int → Int)} {x_chosen_size : Int} {a_chosen_positions : (Int → Int)} {a_chosen_numbers : (Int → Int)} {a_depths : (Int → Int)} {a_bestFrom : (Int → Int)} {r : Int} {y_x_reported : Int} {y_x_stream_length : Int} {y_a_matches_words : (Int → Int)} {y_x_reports_size : Int} {sz : Nat} (hs : s_X7_resetStream x_reported x_stream_length a_matches_words x_reports_size = some (r, y_x_reported, y_x_stream_length, y_a_matches_words, y_x_reports_size)) : Met l yX7_resetStream wsX7_resetStream rm_X7_resetStream (PW D vwCl [(cI, .int), (cZ, .boolean), (cJ, .long)] [.ref (ad 0)] (wK cI cZ cJ ad x_work x_rebuilds x_reported x_folding_on x_buffer_length a_buffer_bytes x_keywords_given x_keywords_alive a_keywords_bytes a_keywords_lengths a_keywords_weights a_keywords_lives x_mainSet_count a_mainSet_members x_removalSet_count a_removalSet_members x_superstring_slots x_superstring_built b_superstring_sw a_superstring_starts a_superstring_lengths a_superstring_overlaps x_superstring_area_length a_superstring_area_bytes x_superstring_spare_length a_superstring_spare_bytes x_stream_length a_stream_bytes a_matches_words x_reports_size a_reports_positions a_reports_numbers x_chosen_size a_chosen_positions a_chosen_numbers a_depths a_bestFrom) sz) (QW D vwCl (some (.int (iI r))) (wK cI cZ cJ ad x_work x_rebuilds y_x_reported x_folding_on x_buffer_length a_buffer_bytes x_keywords_given x_keywords_alive a_keywords_bytes a_keywords_lengths a_keywords_weights a_keywords_lives x_mainSet_count a_mainSet_members x_removalSet_count a_removalSet_members x_superstring_slots x_superstring_built b_superstring_sw a_superstring_starts a_superstring_lengths a_superstring_overlaps x_superstring_area_length a_superstring_area_bytes x_superstring_spare_length a_superstring_spare_bytes y_x_stream_length a_stream_bytes y_a_matches_words y_x_reports_size a_reports_positions a_reports_numbers x_chosen_size a_chosen_positions a_chosen_numbers a_depths a_bestFrom) (va_A (wK cI cZ cJ ad x_work x_rebuilds x_reported x_folding_on x_buffer_length a_buffer_bytes x_keywords_given x_keywords_alive a_keywords_bytes a_keywords_lengths a_keywords_weights a_keywords_lives x_mainSet_count a_mainSet_members x_removalSet_count a_removalSet_members x_superstring_slots x_superstring_built b_superstring_sw a_superstring_starts a_superstring_lengths a_superstring_overlaps x_superstring_area_length a_superstring_area_bytes x_superstring_spare_length a_superstring_spare_bytes x_stream_length a_stream_bytes a_matches_words x_reports_size a_reports_positions a_reports_numbers x_chosen_size a_chosen_positions a_chosen_numbers a_depths a_bestFrom) sz)) 0 0 (va_A (wK cI cZ cJ ad x_work x_rebuilds x_reported x_folding_on x_buffer_length a_buffer_bytes x_keywords_given x_keywords_alive a_keywords_bytes a_keywords_lengths a_keywords_weights a_keywords_lives x_mainSet_count a_mainSet_members x_removalSet_count a_removalSet_members x_superstring_slots x_superstring_built b_superstring_sw a_superstring_starts a_superstring_lengths a_superstring_overlaps x_superstring_area_length a_superstring_area_bytes x_superstring_spare_length a_superstring_spare_bytes x_stream_length a_stream_bytes a_matches_words x_reports_size a_reports_positions a_reports_numbers x_chosen_size a_chosen_positions a_chosen_numbers a_depths a_bestFrom) sz) := by
  refine Met.ofW (cc := cX7_resetStream) (maxL := 2) (ret := (some .int)) (by decide) rfl ?_
  intro p e s m args below meth c s₁ B hml hv
  obtain ⟨hav, hsz, hP, hK, hD0⟩ := hv
  have hx := B.exec
  have hb := B.bytes
  have hr := B.returns
  have hts := atoms_spec (ws := wsX7_resetStream) B.pre
  have hown : s.vm.findClass RX7 = some m.cls := findClass_of_methodNamed B.named
  have hlk := B.notSynchronized
  have hf51 : (Cond.fieldLink RX7 51 "KeywordMatcher" "stream" "LKeywordMatcher$ByteRow;").before args s = true := hts _ (List.mem_of_getElem? (i := 1) rfl)
  have hiX7 : ∀ w ∈ wsX70, w ∈ wsX7_resetStream := fun w h => List.mem_cons_of_mem _ (List.mem_append_left _ (List.mem_append_left _ (List.mem_append_left _ (List.mem_append_right _ h))))
  have hf89 : (Cond.fieldLink RX7 89 "KeywordMatcher$ByteRow" "length" "I").before args s = true := hts _ (List.mem_of_getElem? (i := 2) rfl)
  have hiX1 : ∀ w ∈ wsX10, w ∈ wsX7_resetStream := fun w h => List.mem_cons_of_mem _ (List.mem_append_left _ (List.mem_append_left _ (List.mem_append_right _ h)))
  have hf57 : (Cond.fieldLink RX7 57 "KeywordMatcher" "matches" "LKeywordMatcher$MatchTable;").before args s = true := hts _ (List.mem_of_getElem? (i := 3) rfl)
  have hf64 : (Cond.fieldLink RX7 64 "KeywordMatcher" "reports" "LKeywordMatcher$MatchList;").before args s = true := hts _ (List.mem_of_getElem? (i := 4) rfl)
  have hf86 : (Cond.fieldLink RX7 86 "KeywordMatcher" "reported" "I").before args s = true := hts _ (List.mem_of_getElem? (i := 5) rfl)
  subst hsz
  have hD := hD0.self (sz := s.heap.size)
  generalize hAe : va_A (wK cI cZ cJ ad x_work x_rebuilds x_reported x_folding_on x_buffer_length a_buffer_bytes x_keywords_given x_keywords_alive a_keywords_bytes a_keywords_lengths a_keywords_weights a_keywords_lives x_mainSet_count a_mainSet_members x_removalSet_count a_removalSet_members x_superstring_slots x_superstring_built b_superstring_sw a_superstring_starts a_superstring_lengths a_superstring_overlaps x_superstring_area_length a_superstring_area_bytes x_superstring_spare_length a_superstring_spare_bytes x_stream_length a_stream_bytes a_matches_words x_reports_size a_reports_positions a_reports_numbers x_chosen_size a_chosen_positions a_chosen_numbers a_depths a_bestFrom) s.heap.size = Az at hD ⊢
  have hA : ∀ q : Nat, s.heap.size ≤ q → Az q := fun q h => by rw [← hAe]; exact Or.inr h
  clear hAe
  have hSz : va_S Az s.heap s.heap [] := va_S.rf
  obtain ⟨wz, hw1⟩ : ∃ z : va_W, z = (wK cI cZ cJ ad x_work x_rebuilds y_x_reported x_folding_on x_buffer_length a_buffer_bytes x_keywords_given x_keywords_alive a_keywords_bytes a_keywords_lengths a_keywords_weights a_keywords_lives x_mainSet_count a_mainSet_members x_removalSet_count a_removalSet_members x_superstring_slots x_superstring_built b_superstring_sw a_superstring_starts a_superstring_lengths a_superstring_overlaps x_superstring_area_length a_superstring_area_bytes x_superstring_spare_length a_superstring_spare_bytes y_x_stream_length a_stream_bytes y_a_matches_words y_x_reports_size a_reports_positions a_reports_numbers x_chosen_size a_chosen_positions a_chosen_numbers a_depths a_bestFrom) := ⟨_, rfl⟩
  rw [← hw1]
  have hl := lv_entry ([.ref (ad 0)]) (n := 2) (Nat.le_of_ble_eq_true rfl)
  rw [show entryFrame m args 2 = entryFrame m ([.ref (ad 0)] : List Value).toArray 2 from by rw [hav], lg_entry_eq]
  generalize (lg_sl ([.ref (ad 0)]) ++ List.replicate (2 - (lg_sl ([.ref (ad 0)])).length) Slot.unset).toArray = ls at hl ⊢
  have hl : lv_has ls 2 [(0, .ref (ad 0))] := hl
  unfold s_X7_resetStream at hs
  refine (?_ : ∀ (Hz : Heap) (lz : List Loc), va_P D vwCl (wK cI cZ cJ ad x_work x_rebuilds x_reported x_folding_on x_buffer_length a_buffer_bytes x_keywords_given x_keywords_alive a_keywords_bytes a_keywords_lengths a_keywords_weights a_keywords_lives x_mainSet_count a_mainSet_members x_removalSet_count a_removalSet_members x_superstring_slots x_superstring_built b_superstring_sw a_superstring_starts a_superstring_lengths a_superstring_overlaps x_superstring_area_length a_superstring_area_bytes x_superstring_spare_length a_superstring_spare_bytes x_stream_length a_stream_bytes a_matches_words x_reports_size a_reports_positions a_reports_numbers x_chosen_size a_chosen_positions a_chosen_numbers a_depths a_bestFrom) Hz → va_D Az (wK cI cZ cJ ad x_work x_rebuilds x_reported x_folding_on x_buffer_length a_buffer_bytes x_keywords_given x_keywords_alive a_keywords_bytes a_keywords_lengths a_keywords_weights a_keywords_lives x_mainSet_count a_mainSet_members x_removalSet_count a_removalSet_members x_superstring_slots x_superstring_built b_superstring_sw a_superstring_starts a_superstring_lengths a_superstring_overlaps x_superstring_area_length a_superstring_area_bytes x_superstring_spare_length a_superstring_spare_bytes x_stream_length a_stream_bytes a_matches_words x_reports_size a_reports_positions a_reports_numbers x_chosen_size a_chosen_positions a_chosen_numbers a_depths a_bestFrom) → va_S Az s.heap Hz lz → W p l e (headSpec wsX7_resetStream rm_X7_resetStream).room s m args below meth c Hz lz 0 0 (MQ below (QW D vwCl (some (.int (iI r))) wz Az) args s 0 0 Az) (F0 m 0 ls [])) s.heap [] hP hD hSz
  intro Hz lz hP hD hSz
  refine lv_aload_n hx hb dX7_resetStream_0 rfl (lv_at hl 0 rfl) ?_
  refine va_get (ci := 7) (v := .ref (ad 21)) (C := RX7) (T := TX7) (N := 15) hx hb hts hiX7 hown hK hP 0 rfl rfl 6 (by decide) hf51 (fun _ h9 => h9) rfl dX7_resetStream_1 ?_
  refine va_get (ci := 1) (v := .int (iI x_stream_length)) (C := RX1) (T := TX1) (N := 2) hx hb hts hiX1 hown hK hP 21 rfl rfl 1 (by decide) hf89 (fun _ h9 => h9) rfl dX7_resetStream_4 ?_
  refine lv_istore_n (lv' := [(1, .int (iI x_stream_length)), (0, .ref (ad 0))]) hx hb dX7_resetStream_7 rfl hl (by decide) rfl (fun ls hl => ?_)
  refine lv_aload_n hx hb dX7_resetStream_8 rfl (lv_at hl 1 rfl) ?_
  refine va_get (ci := 7) (v := .ref (ad 21)) (C := RX7) (T := TX7) (N := 15) hx hb hts hiX7 hown hK hP 0 rfl rfl 6 (by decide) hf51 (fun _ h9 => h9) rfl dX7_resetStream_9 ?_
  obtain ⟨vz1, hcz, hs⟩ := bd1_some hs
  refine k_wV (As := []) (rest := []) (st1 := []) (wc := [((ad 21), .inr (1, [.ref (ad 22), .int (iI x_stream_length)])), ((ad 22), .inl (cI, 600, .inl (mI a_stream_bytes)))]) (w1 := [((ad 21), .inr (1, [.ref (ad 22), .int (iI vz1)])), ((ad 22), .inl (cI, 600, .inl (mI a_stream_bytes)))]) ⟨hx, hb, hml, hown, hts⟩ hK hP hD hSz hA [21, 22] rfl (by decide) (c_X1_clear l D cI cZ cJ (Nat.le_of_ble_eq_true rfl) hcz) (cwV 0 hts gX7_resetStream_X1_clear rfl rfl rfl (by decide +kernel) ⟨Nat.le_of_ble_eq_true rfl, Nat.le_of_ble_eq_true rfl⟩) 21 rfl rfl rfl rfl rfl hl.1 rfl (lv_room (Nat.le_of_ble_eq_true rfl)) dX7_resetStream_12 ⟨Nat.zero_le _, Nat.zero_le _⟩ rfl (fun Hz lz hP hD hSz => ?_)
  have hP : va_P D vwCl (wK cI cZ cJ ad x_work x_rebuilds x_reported x_folding_on x_buffer_length a_buffer_bytes x_keywords_given x_keywords_alive a_keywords_bytes a_keywords_lengths a_keywords_weights a_keywords_lives x_mainSet_count a_mainSet_members x_removalSet_count a_removalSet_members x_superstring_slots x_superstring_built b_superstring_sw a_superstring_starts a_superstring_lengths a_superstring_overlaps x_superstring_area_length a_superstring_area_bytes x_superstring_spare_length a_superstring_spare_bytes vz1 a_stream_bytes a_matches_words x_reports_size a_reports_positions a_reports_numbers x_chosen_size a_chosen_positions a_chosen_numbers a_depths a_bestFrom) Hz := hP
  have hD : va_D Az (wK cI cZ cJ ad x_work x_rebuilds x_reported x_folding_on x_buffer_length a_buffer_bytes x_keywords_given x_keywords_alive a_keywords_bytes a_keywords_lengths a_keywords_weights a_keywords_lives x_mainSet_count a_mainSet_members x_removalSet_count a_removalSet_members x_superstring_slots x_superstring_built b_superstring_sw a_superstring_starts a_superstring_lengths a_superstring_overlaps x_superstring_area_length a_superstring_area_bytes x_superstring_spare_length a_superstring_spare_bytes vz1 a_stream_bytes a_matches_words x_reports_size a_reports_positions a_reports_numbers x_chosen_size a_chosen_positions a_chosen_numbers a_depths a_bestFrom) := hD
  refine lv_aload_n hx hb dX7_resetStream_15 rfl (lv_at hl 1 rfl) ?_
  refine va_get (ci := 7) (v := .ref (ad 23)) (C := RX7) (T := TX7) (N := 15) hx hb hts hiX7 hown hK hP 0 rfl rfl 7 (by decide) hf57 (fun _ h9 => h9) rfl dX7_resetStream_16 ?_
  obtain ⟨vz2, hcz, hs⟩ := bd1_some hs
  refine k_wV (As := []) (rest := []) (st1 := []) (wc := [((ad 23), .inr (5, [.ref (ad 24)])), ((ad 24), .inl (cJ, 1200, .inr (.inl (mL a_matches_words))))]) (w1 := [((ad 23), .inr (5, [.ref (ad 24)])), ((ad 24), .inl (cJ, 1200, .inr (.inl (mL vz2))))]) ⟨hx, hb, hml, hown, hts⟩ hK hP hD hSz hA [23, 24] rfl (by decide) (c_X5_clear l D cI cZ cJ hcz) (cwV 0 hts gX7_resetStream_X5_clear rfl rfl rfl (by decide +kernel) ⟨Nat.le_of_ble_eq_true rfl, Nat.le_of_ble_eq_true rfl⟩) 23 rfl rfl rfl rfl rfl hl.1 rfl (lv_room (Nat.le_of_ble_eq_true rfl)) dX7_resetStream_19 ⟨Nat.zero_le _, Nat.zero_le _⟩ rfl (fun Hz lz hP hD hSz => ?_)
  have hP : va_P D vwCl (wK cI cZ cJ ad x_work x_rebuilds x_reported x_folding_on x_buffer_length a_buffer_bytes x_keywords_given x_keywords_alive a_keywords_bytes a_keywords_lengths a_keywords_weights a_keywords_lives x_mainSet_count a_mainSet_members x_removalSet_count a_removalSet_members x_superstring_slots x_superstring_built b_superstring_sw a_superstring_starts a_superstring_lengths a_superstring_overlaps x_superstring_area_length a_superstring_area_bytes x_superstring_spare_length a_superstring_spare_bytes vz1 a_stream_bytes vz2 x_reports_size a_reports_positions a_reports_numbers x_chosen_size a_chosen_positions a_chosen_numbers a_depths a_bestFrom) Hz := hP
  have hD : va_D Az (wK cI cZ cJ ad x_work x_rebuilds x_reported x_folding_on x_buffer_length a_buffer_bytes x_keywords_given x_keywords_alive a_keywords_bytes a_keywords_lengths a_keywords_weights a_keywords_lives x_mainSet_count a_mainSet_members x_removalSet_count a_removalSet_members x_superstring_slots x_superstring_built b_superstring_sw a_superstring_starts a_superstring_lengths a_superstring_overlaps x_superstring_area_length a_superstring_area_bytes x_superstring_spare_length a_superstring_spare_bytes vz1 a_stream_bytes vz2 x_reports_size a_reports_positions a_reports_numbers x_chosen_size a_chosen_positions a_chosen_numbers a_depths a_bestFrom) := hD
  refine lv_aload_n hx hb dX7_resetStream_22 rfl (lv_at hl 1 rfl) ?_
  refine va_get (ci := 7) (v := .ref (ad 25)) (C := RX7) (T := TX7) (N := 15) hx hb hts hiX7 hown hK hP 0 rfl rfl 8 (by decide) hf64 (fun _ h9 => h9) rfl dX7_resetStream_23 ?_
  obtain ⟨vz3, hcz, hs⟩ := bd1_some hs
  refine k_wV (As := []) (rest := []) (st1 := []) (wc := [((ad 25), .inr (4, [.ref (ad 26), .ref (ad 27), .int (iI x_reports_size)])), ((ad 26), .inl (cI, 300, .inl (mI a_reports_positions))), ((ad 27), .inl (cI, 300, .inl (mI a_reports_numbers)))]) (w1 := [((ad 25), .inr (4, [.ref (ad 26), .ref (ad 27), .int (iI vz3)])), ((ad 26), .inl (cI, 300, .inl (mI a_reports_positions))), ((ad 27), .inl (cI, 300, .inl (mI a_reports_numbers)))]) ⟨hx, hb, hml, hown, hts⟩ hK hP hD hSz hA [25, 26, 27] rfl (by decide) (c_X4_clear l D cI cZ cJ (Nat.le_of_ble_eq_true rfl) hcz) (cwV 0 hts gX7_resetStream_X4_clear rfl rfl rfl (by decide +kernel) ⟨Nat.le_of_ble_eq_true rfl, Nat.le_of_ble_eq_true rfl⟩) 25 rfl rfl rfl rfl rfl hl.1 rfl (lv_room (Nat.le_of_ble_eq_true rfl)) dX7_resetStream_26 ⟨Nat.zero_le _, Nat.zero_le _⟩ rfl (fun Hz lz hP hD hSz => ?_)
  have hP : va_P D vwCl (wK cI cZ cJ ad x_work x_rebuilds x_reported x_folding_on x_buffer_length a_buffer_bytes x_keywords_given x_keywords_alive a_keywords_bytes a_keywords_lengths a_keywords_weights a_keywords_lives x_mainSet_count a_mainSet_members x_removalSet_count a_removalSet_members x_superstring_slots x_superstring_built b_superstring_sw a_superstring_starts a_superstring_lengths a_superstring_overlaps x_superstring_area_length a_superstring_area_bytes x_superstring_spare_length a_superstring_spare_bytes vz1 a_stream_bytes vz2 vz3 a_reports_positions a_reports_numbers x_chosen_size a_chosen_positions a_chosen_numbers a_depths a_bestFrom) Hz := hP
  have hD : va_D Az (wK cI cZ cJ ad x_work x_rebuilds x_reported x_folding_on x_buffer_length a_buffer_bytes x_keywords_given x_keywords_alive a_keywords_bytes a_keywords_lengths a_keywords_weights a_keywords_lives x_mainSet_count a_mainSet_members x_removalSet_count a_removalSet_members x_superstring_slots x_superstring_built b_superstring_sw a_superstring_starts a_superstring_lengths a_superstring_overlaps x_superstring_area_length a_superstring_area_bytes x_superstring_spare_length a_superstring_spare_bytes vz1 a_stream_bytes vz2 vz3 a_reports_positions a_reports_numbers x_chosen_size a_chosen_positions a_chosen_numbers a_depths a_bestFrom) := hD
  refine lv_aload_n hx hb dX7_resetStream_29 rfl (lv_at hl 1 rfl) ?_
  refine k_iconst (n := 0) hx hb dX7_resetStream_30 ?_
  refine va_put (ci := 7) (v := .int (iI 0)) (ty := .int) (C := RX7) (T := TX7) (N := 15) hx hb hts hiX7 tyX7 tyX7_ok nmX7 hown hK hP hD hSz 0 rfl rfl 14 (by decide) hf86 (fun _ h9 => h9) rfl (by decide +kernel) rfl rfl (Nat.le_of_ble_eq_true rfl) dX7_resetStream_31 (fun Hz lz hP hD hSz => ?_)
  have hP : va_P D vwCl (wK cI cZ cJ ad x_work x_rebuilds 0 x_folding_on x_buffer_length a_buffer_bytes x_keywords_given x_keywords_alive a_keywords_bytes a_keywords_lengths a_keywords_weights a_keywords_lives x_mainSet_count a_mainSet_members x_removalSet_count a_removalSet_members x_superstring_slots x_superstring_built b_superstring_sw a_superstring_starts a_superstring_lengths a_superstring_overlaps x_superstring_area_length a_superstring_area_bytes x_superstring_spare_length a_superstring_spare_bytes vz1 a_stream_bytes vz2 vz3 a_reports_positions a_reports_numbers x_chosen_size a_chosen_positions a_chosen_numbers a_depths a_bestFrom) Hz := hP
  have hD : va_D Az (wK cI cZ cJ ad x_work x_rebuilds 0 x_folding_on x_buffer_length a_buffer_bytes x_keywords_given x_keywords_alive a_keywords_bytes a_keywords_lengths a_keywords_weights a_keywords_lives x_mainSet_count a_mainSet_members x_removalSet_count a_removalSet_members x_superstring_slots x_superstring_built b_superstring_sw a_superstring_starts a_superstring_lengths a_superstring_overlaps x_superstring_area_length a_superstring_area_bytes x_superstring_spare_length a_superstring_spare_bytes vz1 a_stream_bytes vz2 vz3 a_reports_positions a_reports_numbers x_chosen_size a_chosen_positions a_chosen_numbers a_depths a_bestFrom) := hD
  refine lv_iload_n hx hb dX7_resetStream_34 rfl (lv_at hl 0 rfl) ?_
  cases hs
  exact k_iret_w hx hb hr hlk (by rw [hw1]; exact hP) hSz dX7_resetStream_35 rfl
/-! X7_streamLength -/
set_option maxHeartbeats 4000000 in
set_option maxRecDepth 100000 in
theorem c_X7_streamLength (l : Launch) (D : va_G) (cI cZ cJ : ClassId) {ad : Nat → Nat} {x_work : Int} {x_rebuilds : Int} {x_reported : Int} {x_folding_on : Int} {x_buffer_length : Int} {a_buffer_bytes : (Int → Int)} {x_keywords_given : Int} {x_keywords_alive : Int} {a_keywords_bytes : (Int → Int)} {a_keywords_lengths : (Int → Int)} {a_keywords_weights : (Int → Int)} {a_keywords_lives : (Int → Int)} {x_mainSet_count : Int} {a_mainSet_members : (Int → Int)} {x_removalSet_count : Int} {a_removalSet_members : (Int → Int)} {x_superstring_slots : Int} {x_superstring_built : Int} {b_superstring_sw : Bool} {a_superstring_starts : (Int → Int)} {a_superstring_lengths : (Int → Int)} {a_superstring_overlaps : (Int → Int)} {x_superstring_area_length : Int} {a_superstring_area_bytes : (Int → Int)} {x_superstring_spare_length : Int} {a_superstring_spare_bytes : (Int → Int)} {x_stream_length : Int} {a_stream_bytes : (Int → Int)} {a_matches_words : (Int → Int)} {x_reports_size : Int} {a_reports_positions : (Int → Int)} {a_reports_numbers : (Int → Int)} {x_chosen_size : Int} {a_chosen_positions : (Int → Int)} {a_chosen_numbers : (Int → Int)} {a_depths : (Int → Int)} {a_bestFrom : (Int → Int)} {r : Int} (hs : s_X7_streamLength x_stream_length = some r) : Met l yX7_streamLength wsX7_streamLength rm_X7_streamLength (PR D vwCl [(cI, .int), (cZ, .boolean), (cJ, .long)] [.ref (ad 0)] (wK cI cZ cJ ad x_work x_rebuilds x_reported x_folding_on x_buffer_length a_buffer_bytes x_keywords_given x_keywords_alive a_keywords_bytes a_keywords_lengths a_keywords_weights a_keywords_lives x_mainSet_count a_mainSet_members x_removalSet_count a_removalSet_members x_superstring_slots x_superstring_built b_superstring_sw a_superstring_starts a_superstring_lengths a_superstring_overlaps x_superstring_area_length a_superstring_area_bytes x_superstring_spare_length a_superstring_spare_bytes x_stream_length a_stream_bytes a_matches_words x_reports_size a_reports_positions a_reports_numbers x_chosen_size a_chosen_positions a_chosen_numbers a_depths a_bestFrom)) (QR (some (.int (iI r)))) 0 0 (fun _ => False) := by
  refine Met.ofW (cc := cX7_streamLength) (maxL := 1) (ret := (some .int)) (by decide) rfl ?_
  intro p e s m args below meth c s₁ B hml hv
  obtain ⟨hav, hP, hK⟩ := hv
  have hx := B.exec
  have hb := B.bytes
  have hr := B.returns
  have hts := atoms_spec (ws := wsX7_streamLength) B.pre
  have hown : s.vm.findClass RX7 = some m.cls := findClass_of_methodNamed B.named
  have hlk := B.notSynchronized
  have hf51 : (Cond.fieldLink RX7 51 "KeywordMatcher" "stream" "LKeywordMatcher$ByteRow;").before args s = true := hts _ (List.mem_of_getElem? (i := 1) rfl)
  have hiX7 : ∀ w ∈ wsX70, w ∈ wsX7_streamLength := fun w h => List.mem_cons_of_mem _ (List.mem_append_left _ (List.mem_append_right _ h))
  have hf89 : (Cond.fieldLink RX7 89 "KeywordMatcher$ByteRow" "length" "I").before args s = true := hts _ (List.mem_of_getElem? (i := 2) rfl)
  have hiX1 : ∀ w ∈ wsX10, w ∈ wsX7_streamLength := fun w h => List.mem_cons_of_mem _ (List.mem_append_right _ h)
  have hl := lv_entry ([.ref (ad 0)]) (n := 1) (Nat.le_of_ble_eq_true rfl)
  rw [show entryFrame m args 1 = entryFrame m ([.ref (ad 0)] : List Value).toArray 1 from by rw [hav], lg_entry_eq]
  generalize (lg_sl ([.ref (ad 0)]) ++ List.replicate (1 - (lg_sl ([.ref (ad 0)])).length) Slot.unset).toArray = ls at hl ⊢
  have hl : lv_has ls 1 [(0, .ref (ad 0))] := hl
  unfold s_X7_streamLength at hs
  refine lv_aload_n hx hb dX7_streamLength_0 rfl (lv_at hl 0 rfl) ?_
  refine va_get (ci := 7) (v := .ref (ad 21)) (C := RX7) (T := TX7) (N := 15) hx hb hts hiX7 hown hK hP 0 rfl rfl 6 (by decide) hf51 (fun _ h9 => h9) rfl dX7_streamLength_1 ?_
  refine va_get (ci := 1) (v := .int (iI x_stream_length)) (C := RX1) (T := TX1) (N := 2) hx hb hts hiX1 hown hK hP 21 rfl rfl 1 (by decide) hf89 (fun _ h9 => h9) rfl dX7_streamLength_4 ?_
  cases hs
  exact k_iret_r hx hb hr hlk rfl dX7_streamLength_7 rfl
/-! X7_streamByte -/
set_option maxHeartbeats 4000000 in
set_option maxRecDepth 100000 in
theorem c_X7_streamByte (l : Launch) (D : va_G) (cI cZ cJ : ClassId) {ad : Nat → Nat} {x_work : Int} {x_rebuilds : Int} {x_reported : Int} {x_folding_on : Int} {x_buffer_length : Int} {a_buffer_bytes : (Int → Int)} {x_keywords_given : Int} {x_keywords_alive : Int} {a_keywords_bytes : (Int → Int)} {a_keywords_lengths : (Int → Int)} {a_keywords_weights : (Int → Int)} {a_keywords_lives : (Int → Int)} {x_mainSet_count : Int} {a_mainSet_members : (Int → Int)} {x_removalSet_count : Int} {a_removalSet_members : (Int → Int)} {x_superstring_slots : Int} {x_superstring_built : Int} {b_superstring_sw : Bool} {a_superstring_starts : (Int → Int)} {a_superstring_lengths : (Int → Int)} {a_superstring_overlaps : (Int → Int)} {x_superstring_area_length : Int} {a_superstring_area_bytes : (Int → Int)} {x_superstring_spare_length : Int} {a_superstring_spare_bytes : (Int → Int)} {x_stream_length : Int} {a_stream_bytes : (Int → Int)} {a_matches_words : (Int → Int)} {x_reports_size : Int} {a_reports_positions : (Int → Int)} {a_reports_numbers : (Int → Int)} {x_chosen_size : Int} {a_chosen_positions : (Int → Int)} {a_chosen_numbers : (Int → Int)} {a_depths : (Int → Int)} {a_bestFrom : (Int → Int)} {pz1 : Int} {r : Int} (hs : s_X7_streamByte x_stream_length a_stream_bytes pz1 = some r) : Met l yX7_streamByte wsX7_streamByte rm_X7_streamByte (PR D vwCl [(cI, .int), (cZ, .boolean), (cJ, .long)] [.ref (ad 0), .int (iI pz1)] (wK cI cZ cJ ad x_work x_rebuilds x_reported x_folding_on x_buffer_length a_buffer_bytes x_keywords_given x_keywords_alive a_keywords_bytes a_keywords_lengths a_keywords_weights a_keywords_lives x_mainSet_count a_mainSet_members x_removalSet_count a_removalSet_members x_superstring_slots x_superstring_built b_superstring_sw a_superstring_starts a_superstring_lengths a_superstring_overlaps x_superstring_area_length a_superstring_area_bytes x_superstring_spare_length a_superstring_spare_bytes x_stream_length a_stream_bytes a_matches_words x_reports_size a_reports_positions a_reports_numbers x_chosen_size a_chosen_positions a_chosen_numbers a_depths a_bestFrom)) (QR (some (.int (iI r)))) 0 0 (fun _ => False) := by
  refine Met.ofW (cc := cX7_streamByte) (maxL := 2) (ret := (some .int)) (by decide) rfl ?_
  intro p e s m args below meth c s₁ B hml hv
  obtain ⟨hav, hP, hK⟩ := hv
  have hx := B.exec
  have hb := B.bytes
  have hr := B.returns
  have hts := atoms_spec (ws := wsX7_streamByte) B.pre
  have hown : s.vm.findClass RX7 = some m.cls := findClass_of_methodNamed B.named
  have hlk := B.notSynchronized
  have hf51 : (Cond.fieldLink RX7 51 "KeywordMatcher" "stream" "LKeywordMatcher$ByteRow;").before args s = true := hts _ (List.mem_of_getElem? (i := 1) rfl)
  have hiX7 : ∀ w ∈ wsX70, w ∈ wsX7_streamByte := fun w h => List.mem_cons_of_mem _ (List.mem_append_left _ (List.mem_append_right _ h))
  have hl := lv_entry ([.ref (ad 0), .int (iI pz1)]) (n := 2) (Nat.le_of_ble_eq_true rfl)
  rw [show entryFrame m args 2 = entryFrame m ([.ref (ad 0), .int (iI pz1)] : List Value).toArray 2 from by rw [hav], lg_entry_eq]
  generalize (lg_sl ([.ref (ad 0), .int (iI pz1)]) ++ List.replicate (2 - (lg_sl ([.ref (ad 0), .int (iI pz1)])).length) Slot.unset).toArray = ls at hl ⊢
  have hl : lv_has ls 2 [(0, .ref (ad 0)), (1, .int (iI pz1))] := hl
  unfold s_X7_streamByte at hs
  refine lv_iload_n hx hb dX7_streamByte_0 rfl (lv_at hl 1 rfl) ?_
  refine k_if_ge (tgt := 9) hx hb hs dX7_streamByte_1 (by decide) (fun hs => ?_) (fun hs => ?_)
  · refine k_bipush (n := (-3)) hx hb (by decide) dX7_streamByte_4 ?_
    refine lv_goto (tgt := 17) hx hb dX7_streamByte_6 (by decide) ?_
    cases hs
    exact k_iret_r hx hb hr hlk rfl dX7_streamByte_17 rfl
  · refine lv_aload_n hx hb dX7_streamByte_9 rfl (lv_at hl 0 rfl) ?_
    refine va_get (ci := 7) (v := .ref (ad 21)) (C := RX7) (T := TX7) (N := 15) hx hb hts hiX7 hown hK hP 0 rfl rfl 6 (by decide) hf51 (fun _ h9 => h9) rfl dX7_streamByte_10 ?_
    refine lv_iload_n hx hb dX7_streamByte_13 rfl (lv_at hl 1 rfl) ?_
    obtain ⟨vz1, hcz, hs⟩ := bd1_some hs
    have hPc : va_P D vwCl [((ad 21), .inr (1, [.ref (ad 22), .int (iI x_stream_length)])), ((ad 22), .inl (cI, 600, .inl (mI a_stream_bytes)))] s.heap := hP.sub [21, 22] rfl
    refine k_rV (As := [.int (iI pz1)]) (rest := []) (st1 := [.int (iI vz1)]) ⟨hx, hb, hml, hown, hts⟩ hK hPc (c_X1_at l D cI cZ cJ (Nat.le_of_ble_eq_true rfl) hcz) (cwV 1 hts gX7_streamByte_X1_at rfl rfl rfl (by decide +kernel) ⟨Nat.le_of_ble_eq_true rfl, Nat.le_of_ble_eq_true rfl⟩) 0 rfl rfl rfl rfl hl.1 rfl (lv_room (Nat.le_of_ble_eq_true rfl)) dX7_streamByte_14 ⟨Nat.zero_le _, Nat.zero_le _⟩ rfl ?_
    cases hs
    exact k_iret_r hx hb hr hlk rfl dX7_streamByte_17 rfl
/-! X7_reportCount -/
set_option maxHeartbeats 4000000 in
set_option maxRecDepth 100000 in
theorem c_X7_reportCount (l : Launch) (D : va_G) (cI cZ cJ : ClassId) {ad : Nat → Nat} {x_work : Int} {x_rebuilds : Int} {x_reported : Int} {x_folding_on : Int} {x_buffer_length : Int} {a_buffer_bytes : (Int → Int)} {x_keywords_given : Int} {x_keywords_alive : Int} {a_keywords_bytes : (Int → Int)} {a_keywords_lengths : (Int → Int)} {a_keywords_weights : (Int → Int)} {a_keywords_lives : (Int → Int)} {x_mainSet_count : Int} {a_mainSet_members : (Int → Int)} {x_removalSet_count : Int} {a_removalSet_members : (Int → Int)} {x_superstring_slots : Int} {x_superstring_built : Int} {b_superstring_sw : Bool} {a_superstring_starts : (Int → Int)} {a_superstring_lengths : (Int → Int)} {a_superstring_overlaps : (Int → Int)} {x_superstring_area_length : Int} {a_superstring_area_bytes : (Int → Int)} {x_superstring_spare_length : Int} {a_superstring_spare_bytes : (Int → Int)} {x_stream_length : Int} {a_stream_bytes : (Int → Int)} {a_matches_words : (Int → Int)} {x_reports_size : Int} {a_reports_positions : (Int → Int)} {a_reports_numbers : (Int → Int)} {x_chosen_size : Int} {a_chosen_positions : (Int → Int)} {a_chosen_numbers : (Int → Int)} {a_depths : (Int → Int)} {a_bestFrom : (Int → Int)} {r : Int} (hs : s_X7_reportCount x_reported = some r) : Met l yX7_reportCount wsX7_reportCount rm_X7_reportCount (PR D vwCl [(cI, .int), (cZ, .boolean), (cJ, .long)] [.ref (ad 0)] (wK cI cZ cJ ad x_work x_rebuilds x_reported x_folding_on x_buffer_length a_buffer_bytes x_keywords_given x_keywords_alive a_keywords_bytes a_keywords_lengths a_keywords_weights a_keywords_lives x_mainSet_count a_mainSet_members x_removalSet_count a_removalSet_members x_superstring_slots x_superstring_built b_superstring_sw a_superstring_starts a_superstring_lengths a_superstring_overlaps x_superstring_area_length a_superstring_area_bytes x_superstring_spare_length a_superstring_spare_bytes x_stream_length a_stream_bytes a_matches_words x_reports_size a_reports_positions a_reports_numbers x_chosen_size a_chosen_positions a_chosen_numbers a_depths a_bestFrom)) (QR (some (.int (iI r)))) 0 0 (fun _ => False) := by
  refine Met.ofW (cc := cX7_reportCount) (maxL := 1) (ret := (some .int)) (by decide) rfl ?_
  intro p e s m args below meth c s₁ B hml hv
  obtain ⟨hav, hP, hK⟩ := hv
  have hx := B.exec
  have hb := B.bytes
  have hr := B.returns
  have hts := atoms_spec (ws := wsX7_reportCount) B.pre
  have hown : s.vm.findClass RX7 = some m.cls := findClass_of_methodNamed B.named
  have hlk := B.notSynchronized
  have hf86 : (Cond.fieldLink RX7 86 "KeywordMatcher" "reported" "I").before args s = true := hts _ (List.mem_of_getElem? (i := 1) rfl)
  have hiX7 : ∀ w ∈ wsX70, w ∈ wsX7_reportCount := fun w h => List.mem_cons_of_mem _ (List.mem_append_right _ h)
  have hl := lv_entry ([.ref (ad 0)]) (n := 1) (Nat.le_of_ble_eq_true rfl)
  rw [show entryFrame m args 1 = entryFrame m ([.ref (ad 0)] : List Value).toArray 1 from by rw [hav], lg_entry_eq]
  generalize (lg_sl ([.ref (ad 0)]) ++ List.replicate (1 - (lg_sl ([.ref (ad 0)])).length) Slot.unset).toArray = ls at hl ⊢
  have hl : lv_has ls 1 [(0, .ref (ad 0))] := hl
  unfold s_X7_reportCount at hs
  refine lv_aload_n hx hb dX7_reportCount_0 rfl (lv_at hl 0 rfl) ?_
  refine va_get (ci := 7) (v := .int (iI x_reported)) (C := RX7) (T := TX7) (N := 15) hx hb hts hiX7 hown hK hP 0 rfl rfl 14 (by decide) hf86 (fun _ h9 => h9) rfl dX7_reportCount_1 ?_
  cases hs
  exact k_iret_r hx hb hr hlk rfl dX7_reportCount_4 rfl
/-! X7_reportEnd -/
set_option maxHeartbeats 4000000 in
set_option maxRecDepth 100000 in
theorem c_X7_reportEnd (l : Launch) (D : va_G) (cI cZ cJ : ClassId) {ad : Nat → Nat} {x_work : Int} {x_rebuilds : Int} {x_reported : Int} {x_folding_on : Int} {x_buffer_length : Int} {a_buffer_bytes : (Int → Int)} {x_keywords_given : Int} {x_keywords_alive : Int} {a_keywords_bytes : (Int → Int)} {a_keywords_lengths : (Int → Int)} {a_keywords_weights : (Int → Int)} {a_keywords_lives : (Int → Int)} {x_mainSet_count : Int} {a_mainSet_members : (Int → Int)} {x_removalSet_count : Int} {a_removalSet_members : (Int → Int)} {x_superstring_slots : Int} {x_superstring_built : Int} {b_superstring_sw : Bool} {a_superstring_starts : (Int → Int)} {a_superstring_lengths : (Int → Int)} {a_superstring_overlaps : (Int → Int)} {x_superstring_area_length : Int} {a_superstring_area_bytes : (Int → Int)} {x_superstring_spare_length : Int} {a_superstring_spare_bytes : (Int → Int)} {x_stream_length : Int} {a_stream_bytes : (Int → Int)} {a_matches_words : (Int → Int)} {x_reports_size : Int} {a_reports_positions : (Int → Int)} {a_reports_numbers : (Int → Int)} {x_chosen_size : Int} {a_chosen_positions : (Int → Int)} {a_chosen_numbers : (Int → Int)} {a_depths : (Int → Int)} {a_bestFrom : (Int → Int)} {pz1 : Int} {r : Int} (hs : s_X7_reportEnd x_reports_size a_reports_positions pz1 = some r) : Met l yX7_reportEnd wsX7_reportEnd rm_X7_reportEnd (PR D vwCl [(cI, .int), (cZ, .boolean), (cJ, .long)] [.ref (ad 0), .int (iI pz1)] (wK cI cZ cJ ad x_work x_rebuilds x_reported x_folding_on x_buffer_length a_buffer_bytes x_keywords_given x_keywords_alive a_keywords_bytes a_keywords_lengths a_keywords_weights a_keywords_lives x_mainSet_count a_mainSet_members x_removalSet_count a_removalSet_members x_superstring_slots x_superstring_built b_superstring_sw a_superstring_starts a_superstring_lengths a_superstring_overlaps x_superstring_area_length a_superstring_area_bytes x_superstring_spare_length a_superstring_spare_bytes x_stream_length a_stream_bytes a_matches_words x_reports_size a_reports_positions a_reports_numbers x_chosen_size a_chosen_positions a_chosen_numbers a_depths a_bestFrom)) (QR (some (.int (iI r)))) 0 0 (fun _ => False) := by
  refine Met.ofW (cc := cX7_reportEnd) (maxL := 2) (ret := (some .int)) (by decide) rfl ?_
  intro p e s m args below meth c s₁ B hml hv
  obtain ⟨hav, hP, hK⟩ := hv
  have hx := B.exec
  have hb := B.bytes
  have hr := B.returns
  have hts := atoms_spec (ws := wsX7_reportEnd) B.pre
  have hown : s.vm.findClass RX7 = some m.cls := findClass_of_methodNamed B.named
  have hlk := B.notSynchronized
  have hf64 : (Cond.fieldLink RX7 64 "KeywordMatcher" "reports" "LKeywordMatcher$MatchList;").before args s = true := hts _ (List.mem_of_getElem? (i := 1) rfl)
  have hiX7 : ∀ w ∈ wsX70, w ∈ wsX7_reportEnd := fun w h => List.mem_cons_of_mem _ (List.mem_append_left _ (List.mem_append_right _ h))
  have hl := lv_entry ([.ref (ad 0), .int (iI pz1)]) (n := 2) (Nat.le_of_ble_eq_true rfl)
  rw [show entryFrame m args 2 = entryFrame m ([.ref (ad 0), .int (iI pz1)] : List Value).toArray 2 from by rw [hav], lg_entry_eq]
  generalize (lg_sl ([.ref (ad 0), .int (iI pz1)]) ++ List.replicate (2 - (lg_sl ([.ref (ad 0), .int (iI pz1)])).length) Slot.unset).toArray = ls at hl ⊢
  have hl : lv_has ls 2 [(0, .ref (ad 0)), (1, .int (iI pz1))] := hl
  unfold s_X7_reportEnd at hs
  refine lv_iload_n hx hb dX7_reportEnd_0 rfl (lv_at hl 1 rfl) ?_
  refine k_if_ge (tgt := 9) hx hb hs dX7_reportEnd_1 (by decide) (fun hs => ?_) (fun hs => ?_)
  · refine k_bipush (n := (-3)) hx hb (by decide) dX7_reportEnd_4 ?_
    refine lv_goto (tgt := 17) hx hb dX7_reportEnd_6 (by decide) ?_
    cases hs
    exact k_iret_r hx hb hr hlk rfl dX7_reportEnd_17 rfl
  · refine lv_aload_n hx hb dX7_reportEnd_9 rfl (lv_at hl 0 rfl) ?_
    refine va_get (ci := 7) (v := .ref (ad 25)) (C := RX7) (T := TX7) (N := 15) hx hb hts hiX7 hown hK hP 0 rfl rfl 8 (by decide) hf64 (fun _ h9 => h9) rfl dX7_reportEnd_10 ?_
    refine lv_iload_n hx hb dX7_reportEnd_13 rfl (lv_at hl 1 rfl) ?_
    obtain ⟨vz1, hcz, hs⟩ := bd1_some hs
    have hPc : va_P D vwCl [((ad 25), .inr (4, [.ref (ad 26), .ref (ad 27), .int (iI x_reports_size)])), ((ad 26), .inl (cI, 300, .inl (mI a_reports_positions))), ((ad 27), .inl (cI, 300, .inl (mI a_reports_numbers)))] s.heap := hP.sub [25, 26, 27] rfl
    refine k_rV (As := [.int (iI pz1)]) (rest := []) (st1 := [.int (iI vz1)]) ⟨hx, hb, hml, hown, hts⟩ hK hPc (c_X4_positionAt l D cI cZ cJ (Nat.le_of_ble_eq_true rfl) hcz) (cwV 1 hts gX7_reportEnd_X4_positionAt rfl rfl rfl (by decide +kernel) ⟨Nat.le_of_ble_eq_true rfl, Nat.le_of_ble_eq_true rfl⟩) 0 rfl rfl rfl rfl hl.1 rfl (lv_room (Nat.le_of_ble_eq_true rfl)) dX7_reportEnd_14 ⟨Nat.zero_le _, Nat.zero_le _⟩ rfl ?_
    cases hs
    exact k_iret_r hx hb hr hlk rfl dX7_reportEnd_17 rfl
/-! X7_reportKeyword -/
set_option maxHeartbeats 4000000 in
set_option maxRecDepth 100000 in
theorem c_X7_reportKeyword (l : Launch) (D : va_G) (cI cZ cJ : ClassId) {ad : Nat → Nat} {x_work : Int} {x_rebuilds : Int} {x_reported : Int} {x_folding_on : Int} {x_buffer_length : Int} {a_buffer_bytes : (Int → Int)} {x_keywords_given : Int} {x_keywords_alive : Int} {a_keywords_bytes : (Int → Int)} {a_keywords_lengths : (Int → Int)} {a_keywords_weights : (Int → Int)} {a_keywords_lives : (Int → Int)} {x_mainSet_count : Int} {a_mainSet_members : (Int → Int)} {x_removalSet_count : Int} {a_removalSet_members : (Int → Int)} {x_superstring_slots : Int} {x_superstring_built : Int} {b_superstring_sw : Bool} {a_superstring_starts : (Int → Int)} {a_superstring_lengths : (Int → Int)} {a_superstring_overlaps : (Int → Int)} {x_superstring_area_length : Int} {a_superstring_area_bytes : (Int → Int)} {x_superstring_spare_length : Int} {a_superstring_spare_bytes : (Int → Int)} {x_stream_length : Int} {a_stream_bytes : (Int → Int)} {a_matches_words : (Int → Int)} {x_reports_size : Int} {a_reports_positions : (Int → Int)} {a_reports_numbers : (Int → Int)} {x_chosen_size : Int} {a_chosen_positions : (Int → Int)} {a_chosen_numbers : (Int → Int)} {a_depths : (Int → Int)} {a_bestFrom : (Int → Int)} {pz1 : Int} {r : Int} (hs : s_X7_reportKeyword x_reports_size a_reports_numbers pz1 = some r) : Met l yX7_reportKeyword wsX7_reportKeyword rm_X7_reportKeyword (PR D vwCl [(cI, .int), (cZ, .boolean), (cJ, .long)] [.ref (ad 0), .int (iI pz1)] (wK cI cZ cJ ad x_work x_rebuilds x_reported x_folding_on x_buffer_length a_buffer_bytes x_keywords_given x_keywords_alive a_keywords_bytes a_keywords_lengths a_keywords_weights a_keywords_lives x_mainSet_count a_mainSet_members x_removalSet_count a_removalSet_members x_superstring_slots x_superstring_built b_superstring_sw a_superstring_starts a_superstring_lengths a_superstring_overlaps x_superstring_area_length a_superstring_area_bytes x_superstring_spare_length a_superstring_spare_bytes x_stream_length a_stream_bytes a_matches_words x_reports_size a_reports_positions a_reports_numbers x_chosen_size a_chosen_positions a_chosen_numbers a_depths a_bestFrom)) (QR (some (.int (iI r)))) 0 0 (fun _ => False) := by
  refine Met.ofW (cc := cX7_reportKeyword) (maxL := 2) (ret := (some .int)) (by decide) rfl ?_
  intro p e s m args below meth c s₁ B hml hv
  obtain ⟨hav, hP, hK⟩ := hv
  have hx := B.exec
  have hb := B.bytes
  have hr := B.returns
  have hts := atoms_spec (ws := wsX7_reportKeyword) B.pre
  have hown : s.vm.findClass RX7 = some m.cls := findClass_of_methodNamed B.named
  have hlk := B.notSynchronized
  have hf64 : (Cond.fieldLink RX7 64 "KeywordMatcher" "reports" "LKeywordMatcher$MatchList;").before args s = true := hts _ (List.mem_of_getElem? (i := 1) rfl)
  have hiX7 : ∀ w ∈ wsX70, w ∈ wsX7_reportKeyword := fun w h => List.mem_cons_of_mem _ (List.mem_append_left _ (List.mem_append_right _ h))
  have hl := lv_entry ([.ref (ad 0), .int (iI pz1)]) (n := 2) (Nat.le_of_ble_eq_true rfl)
  rw [show entryFrame m args 2 = entryFrame m ([.ref (ad 0), .int (iI pz1)] : List Value).toArray 2 from by rw [hav], lg_entry_eq]
  generalize (lg_sl ([.ref (ad 0), .int (iI pz1)]) ++ List.replicate (2 - (lg_sl ([.ref (ad 0), .int (iI pz1)])).length) Slot.unset).toArray = ls at hl ⊢
  have hl : lv_has ls 2 [(0, .ref (ad 0)), (1, .int (iI pz1))] := hl
  unfold s_X7_reportKeyword at hs
  refine lv_iload_n hx hb dX7_reportKeyword_0 rfl (lv_at hl 1 rfl) ?_
  refine k_if_ge (tgt := 9) hx hb hs dX7_reportKeyword_1 (by decide) (fun hs => ?_) (fun hs => ?_)
  · refine k_bipush (n := (-3)) hx hb (by decide) dX7_reportKeyword_4 ?_
    refine lv_goto (tgt := 17) hx hb dX7_reportKeyword_6 (by decide) ?_
    cases hs
    exact k_iret_r hx hb hr hlk rfl dX7_reportKeyword_17 rfl
  · refine lv_aload_n hx hb dX7_reportKeyword_9 rfl (lv_at hl 0 rfl) ?_
    refine va_get (ci := 7) (v := .ref (ad 25)) (C := RX7) (T := TX7) (N := 15) hx hb hts hiX7 hown hK hP 0 rfl rfl 8 (by decide) hf64 (fun _ h9 => h9) rfl dX7_reportKeyword_10 ?_
    refine lv_iload_n hx hb dX7_reportKeyword_13 rfl (lv_at hl 1 rfl) ?_
    obtain ⟨vz1, hcz, hs⟩ := bd1_some hs
    have hPc : va_P D vwCl [((ad 25), .inr (4, [.ref (ad 26), .ref (ad 27), .int (iI x_reports_size)])), ((ad 26), .inl (cI, 300, .inl (mI a_reports_positions))), ((ad 27), .inl (cI, 300, .inl (mI a_reports_numbers)))] s.heap := hP.sub [25, 26, 27] rfl
    refine k_rV (As := [.int (iI pz1)]) (rest := []) (st1 := [.int (iI vz1)]) ⟨hx, hb, hml, hown, hts⟩ hK hPc (c_X4_keywordAt l D cI cZ cJ (Nat.le_of_ble_eq_true rfl) hcz) (cwV 1 hts gX7_reportKeyword_X4_keywordAt rfl rfl rfl (by decide +kernel) ⟨Nat.le_of_ble_eq_true rfl, Nat.le_of_ble_eq_true rfl⟩) 0 rfl rfl rfl rfl hl.1 rfl (lv_room (Nat.le_of_ble_eq_true rfl)) dX7_reportKeyword_14 ⟨Nat.zero_le _, Nat.zero_le _⟩ rfl ?_
    cases hs
    exact k_iret_r hx hb hr hlk rfl dX7_reportKeyword_17 rfl
