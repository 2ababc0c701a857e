/-! X7_overlapLength -/
set_option maxHeartbeats 4000000 in
set_option maxRecDepth 100000 in
theorem c_X7_overlapLength (l : Launch) (D : va_G) (cI cZ cJ : ClassId) {ad : Nat → Nat} {x_work : Int} {x_rebuilds : Int} {x_reported : Int} {x_folding_on : Int} {x_buffer_length : Int} {a_buffer_bytes : (Int → Int)} {x_keywords_given : Int} {x_keywords_alive : Int} {a_keywords_bytes : (Int → Int)} {a_keywords_lengths : (Int → Int)} {a_keywords_weights : (Int → Int)} {a_keywords_lives : (Int → Int)} {x_mainSet_count : Int} {a_mainSet_members : (Int → Int)} {x_removalSet_count : Int} {a_removalSet_members : (Int → Int)} {x_superstring_slots : Int} {x_superstring_built : Int} {b_superstring_sw : Bool} {a_superstring_starts : (Int → Int)} {a_superstring_lengths : (Int → Int)} {a_superstring_overlaps : (Int → Int)} {x_superstring_area_length : Int} {a_superstring_area_bytes : (Int → Int)} {x_superstring_spare_length : Int} {a_superstring_spare_bytes : (Int → Int)} {x_stream_length : Int} {a_stream_bytes : (Int → Int)} {a_matches_words : (Int → Int)} {x_reports_size : Int} {a_reports_positions : (Int → Int)} {a_reports_numbers : (Int → Int)} {x_chosen_size : Int} {a_chosen_positions : (Int → Int)} {a_chosen_numbers : (Int → Int)} {a_depths : (Int → Int)} {a_bestFrom : (Int → Int)} {pz1 : Int} {pz2 : Int} {r : Int} (hs : s_X7_overlapLength x_folding_on x_keywords_given a_keywords_bytes a_keywords_lengths pz1 pz2 = some r) : Met l yX7_overlapLength wsX7_overlapLength rm_X7_overlapLength (PR D vwCl [(cI, .int), (cZ, .boolean), (cJ, .long)] [.ref (ad 0), .int (iI pz1), .int (iI pz2)] (wK cI cZ cJ ad x_work x_rebuilds x_reported x_folding_on x_buffer_length a_buffer_bytes x_keywords_given x_keywords_alive a_keywords_bytes a_keywords_lengths a_keywords_weights a_keywords_lives x_mainSet_count a_mainSet_members x_removalSet_count a_removalSet_members x_superstring_slots x_superstring_built b_superstring_sw a_superstring_starts a_superstring_lengths a_superstring_overlaps x_superstring_area_length a_superstring_area_bytes x_superstring_spare_length a_superstring_spare_bytes x_stream_length a_stream_bytes a_matches_words x_reports_size a_reports_positions a_reports_numbers x_chosen_size a_chosen_positions a_chosen_numbers a_depths a_bestFrom)) (QR (some (.int (iI r)))) 0 0 (fun _ => False) := by
  refine Met.ofW (cc := cX7_overlapLength) (maxL := 5) (ret := (some .int)) (by decide) rfl ?_
  intro p e s m args below meth c s₁ B hml hv
  obtain ⟨hav, hP, hK⟩ := hv
  have hx := B.exec
  have hb := B.bytes
  have hr := B.returns
  have hts := atoms_spec (ws := wsX7_overlapLength) B.pre
  have hown : s.vm.findClass RX7 = some m.cls := findClass_of_methodNamed B.named
  have hlk := B.notSynchronized
  have hf30 : (Cond.fieldLink RX7 30 "KeywordMatcher" "keywords" "LKeywordMatcher$Keywords;").before args s = true := hts _ (List.mem_of_getElem? (i := 1) rfl)
  have hiX7 : ∀ w ∈ wsX70, w ∈ wsX7_overlapLength := fun w h => List.mem_cons_of_mem _ (List.mem_append_left _ (List.mem_append_left _ (List.mem_append_right _ h)))
  have hm197 : (Cond.methodLink RX7 197 Lib.Math.min.name).before args s = true := hts _ (List.mem_of_getElem? (i := 2) rfl)
  have hst_min : (Cond.static Lib.Math.min.name).before args s = true := hts _ (List.mem_of_getElem? (i := 3) rfl)
  have hin_Math : (Cond.initialized "java/lang/Math").before args s = true := hts _ (List.mem_of_getElem? (i := 4) rfl)
  have hcd_min : (Cond.code Lib.Math.min.name Lib.Math.min.code 2 (some .int)).before args s = true := hts _ (List.mem_of_getElem? (i := 5) rfl)
  have hf12 : (Cond.fieldLink RX7 12 "KeywordMatcher" "folding" "LKeywordMatcher$Folding;").before args s = true := hts _ (List.mem_of_getElem? (i := 6) rfl)
  have hf207 : (Cond.fieldLink RX7 207 "KeywordMatcher$Keywords" "bytes" "[I").before args s = true := hts _ (List.mem_of_getElem? (i := 7) rfl)
  have hiX3 : ∀ w ∈ wsX30, w ∈ wsX7_overlapLength := fun w h => List.mem_cons_of_mem _ (List.mem_append_left _ (List.mem_append_right _ h))
  have hl := lv_entry ([.ref (ad 0), .int (iI pz1), .int (iI pz2)]) (n := 5) (Nat.le_of_ble_eq_true rfl)
  rw [show entryFrame m args 5 = entryFrame m ([.ref (ad 0), .int (iI pz1), .int (iI pz2)] : List Value).toArray 5 from by rw [hav], lg_entry_eq]
  generalize (lg_sl ([.ref (ad 0), .int (iI pz1), .int (iI pz2)]) ++ List.replicate (5 - (lg_sl ([.ref (ad 0), .int (iI pz1), .int (iI pz2)])).length) Slot.unset).toArray = ls at hl ⊢
  have hl : lv_has ls 5 [(0, .ref (ad 0)), (1, .int (iI pz1)), (2, .int (iI pz2))] := hl
  unfold s_X7_overlapLength at hs
  refine lv_aload_n hx hb dX7_overlapLength_0 rfl (lv_at hl 0 rfl) ?_
  refine va_get (ci := 7) (v := .ref (ad 4)) (C := RX7) (T := TX7) (N := 15) hx hb hts hiX7 hown hK hP 0 rfl rfl 2 (by decide) hf30 (fun _ h9 => h9) rfl dX7_overlapLength_1 ?_
  refine lv_iload_n hx hb dX7_overlapLength_4 rfl (lv_at hl 1 rfl) ?_
  obtain ⟨vz1, hcz, hs⟩ := bd1_some hs
  have hPc : va_P D vwCl [((ad 4), .inr (3, [.ref (ad 1), .ref (ad 5), .ref (ad 6), .ref (ad 7), .ref (ad 8), .int (iI x_keywords_given), .int (iI x_keywords_alive)])), ((ad 1), .inr (2, [.int (iI x_folding_on)])), ((ad 5), .inl (cI, 1920, .inl (mI a_keywords_bytes))), ((ad 6), .inl (cI, 120, .inl (mI a_keywords_lengths))), ((ad 7), .inl (cI, 120, .inl (mI a_keywords_weights))), ((ad 8), .inl (cZ, 120, .inl (mI a_keywords_lives)))] s.heap := hP.sub [4, 1, 5, 6, 7, 8] rfl
  refine k_rV (As := [.int (iI pz1)]) (rest := []) (st1 := [.int (iI vz1)]) ⟨hx, hb, hml, hown, hts⟩ hK hPc (c_X3_isGiven l D cI cZ cJ hcz) (cwV 1 hts gX7_overlapLength_X3_isGiven rfl rfl rfl (by decide +kernel) ⟨Nat.le_of_ble_eq_true rfl, Nat.le_of_ble_eq_true rfl⟩) 0 rfl rfl rfl rfl hl.1 rfl (lv_room (Nat.le_of_ble_eq_true rfl)) dX7_overlapLength_5 ⟨Nat.zero_le _, Nat.zero_le _⟩ rfl ?_
  refine k_if_eq (tgt := 22) hx hb hs dX7_overlapLength_8 (by decide) (fun hs => ?_) (fun hs => ?_)
  · refine k_bipush (n := (-2)) hx hb (by decide) dX7_overlapLength_22 ?_
    cases hs
    exact k_iret_r hx hb hr hlk rfl dX7_overlapLength_24 rfl
  · refine lv_aload_n hx hb dX7_overlapLength_11 rfl (lv_at hl 0 rfl) ?_
    refine va_get (ci := 7) (v := .ref (ad 4)) (C := RX7) (T := TX7) (N := 15) hx hb hts hiX7 hown hK hP 0 rfl rfl 2 (by decide) hf30 (fun _ h9 => h9) rfl dX7_overlapLength_12 ?_
    refine lv_iload_n hx hb dX7_overlapLength_15 rfl (lv_at hl 2 rfl) ?_
    obtain ⟨vz2, hcz, hs⟩ := bd1_some hs
    have hPc : va_P D vwCl [((ad 4), .inr (3, [.ref (ad 1), .ref (ad 5), .ref (ad 6), .ref (ad 7), .ref (ad 8), .int (iI x_keywords_given), .int (iI x_keywords_alive)])), ((ad 1), .inr (2, [.int (iI x_folding_on)])), ((ad 5), .inl (cI, 1920, .inl (mI a_keywords_bytes))), ((ad 6), .inl (cI, 120, .inl (mI a_keywords_lengths))), ((ad 7), .inl (cI, 120, .inl (mI a_keywords_weights))), ((ad 8), .inl (cZ, 120, .inl (mI a_keywords_lives)))] s.heap := hP.sub [4, 1, 5, 6, 7, 8] rfl
    refine k_rV (As := [.int (iI pz2)]) (rest := []) (st1 := [.int (iI vz2)]) ⟨hx, hb, hml, hown, hts⟩ hK hPc (c_X3_isGiven l D cI cZ cJ hcz) (cwV 1 hts gX7_overlapLength_X3_isGiven rfl rfl rfl (by decide +kernel) ⟨Nat.le_of_ble_eq_true rfl, Nat.le_of_ble_eq_true rfl⟩) 0 rfl rfl rfl rfl hl.1 rfl (lv_room (Nat.le_of_ble_eq_true rfl)) dX7_overlapLength_16 ⟨Nat.zero_le _, Nat.zero_le _⟩ rfl ?_
    refine k_if_ne (tgt := 25) hx hb hs dX7_overlapLength_19 (by decide) (fun hs => ?_) (fun hs => ?_)
    · refine k_bipush (n := (-2)) hx hb (by decide) dX7_overlapLength_22 ?_
      cases hs
      exact k_iret_r hx hb hr hlk rfl dX7_overlapLength_24 rfl
    · refine lv_aload_n hx hb dX7_overlapLength_25 rfl (lv_at hl 0 rfl) ?_
      refine va_get (ci := 7) (v := .ref (ad 4)) (C := RX7) (T := TX7) (N := 15) hx hb hts hiX7 hown hK hP 0 rfl rfl 2 (by decide) hf30 (fun _ h9 => h9) rfl dX7_overlapLength_26 ?_
      refine lv_iload_n hx hb dX7_overlapLength_29 rfl (lv_at hl 1 rfl) ?_
      obtain ⟨vz3, hcz, hs⟩ := bd1_some hs
      have hPc : va_P D vwCl [((ad 4), .inr (3, [.ref (ad 1), .ref (ad 5), .ref (ad 6), .ref (ad 7), .ref (ad 8), .int (iI x_keywords_given), .int (iI x_keywords_alive)])), ((ad 1), .inr (2, [.int (iI x_folding_on)])), ((ad 5), .inl (cI, 1920, .inl (mI a_keywords_bytes))), ((ad 6), .inl (cI, 120, .inl (mI a_keywords_lengths))), ((ad 7), .inl (cI, 120, .inl (mI a_keywords_weights))), ((ad 8), .inl (cZ, 120, .inl (mI a_keywords_lives)))] s.heap := hP.sub [4, 1, 5, 6, 7, 8] rfl
      refine k_rV (As := [.int (iI pz1)]) (rest := []) (st1 := [.int (iI vz3)]) ⟨hx, hb, hml, hown, hts⟩ hK hPc (c_X3_firstByteOf l D cI cZ cJ hcz) (cwV 1 hts gX7_overlapLength_X3_firstByteOf rfl rfl rfl (by decide +kernel) ⟨Nat.le_of_ble_eq_true rfl, Nat.le_of_ble_eq_true rfl⟩) 0 rfl rfl rfl rfl hl.1 rfl (lv_room (Nat.le_of_ble_eq_true rfl)) dX7_overlapLength_30 ⟨Nat.zero_le _, Nat.zero_le _⟩ rfl ?_
      refine lv_aload_n hx hb dX7_overlapLength_33 rfl (lv_at hl 0 rfl) ?_
      refine va_get (ci := 7) (v := .ref (ad 4)) (C := RX7) (T := TX7) (N := 15) hx hb hts hiX7 hown hK hP 0 rfl rfl 2 (by decide) hf30 (fun _ h9 => h9) rfl dX7_overlapLength_34 ?_
      refine lv_iload_n hx hb dX7_overlapLength_37 rfl (lv_at hl 1 rfl) ?_
      obtain ⟨vz4, hcz, hs⟩ := bd1_some hs
      have hPc : va_P D vwCl [((ad 4), .inr (3, [.ref (ad 1), .ref (ad 5), .ref (ad 6), .ref (ad 7), .ref (ad 8), .int (iI x_keywords_given), .int (iI x_keywords_alive)])), ((ad 1), .inr (2, [.int (iI x_folding_on)])), ((ad 5), .inl (cI, 1920, .inl (mI a_keywords_bytes))), ((ad 6), .inl (cI, 120, .inl (mI a_keywords_lengths))), ((ad 7), .inl (cI, 120, .inl (mI a_keywords_weights))), ((ad 8), .inl (cZ, 120, .inl (mI a_keywords_lives)))] s.heap := hP.sub [4, 1, 5, 6, 7, 8] rfl
      refine k_rV (As := [.int (iI pz1)]) (rest := [.int (iI vz3)]) (st1 := [.int (iI vz4), .int (iI vz3)]) ⟨hx, hb, hml, hown, hts⟩ hK hPc (c_X3_lengthOf l D cI cZ cJ hcz) (cwV 1 hts gX7_overlapLength_X3_lengthOf rfl rfl rfl (by decide +kernel) ⟨Nat.le_of_ble_eq_true rfl, Nat.le_of_ble_eq_true rfl⟩) 0 rfl rfl rfl rfl hl.1 rfl (lv_room (Nat.le_of_ble_eq_true rfl)) dX7_overlapLength_38 ⟨Nat.zero_le _, Nat.zero_le _⟩ rfl ?_
      refine k_iadd hx hb dX7_overlapLength_41 ?_
      refine lv_istore_n (lv' := [(3, .int (iI (vz3 + vz4))), (0, .ref (ad 0)), (1, .int (iI pz1)), (2, .int (iI pz2))]) hx hb dX7_overlapLength_42 rfl hl (by decide) rfl (fun ls hl => ?_)
      refine lv_aload_n hx hb dX7_overlapLength_43 rfl (lv_at hl 1 rfl) ?_
      refine va_get (ci := 7) (v := .ref (ad 4)) (C := RX7) (T := TX7) (N := 15) hx hb hts hiX7 hown hK hP 0 rfl rfl 2 (by decide) hf30 (fun _ h9 => h9) rfl dX7_overlapLength_44 ?_
      refine lv_iload_n hx hb dX7_overlapLength_47 rfl (lv_at hl 2 rfl) ?_
      obtain ⟨vz5, hcz, hs⟩ := bd1_some hs
      have hPc : va_P D vwCl [((ad 4), .inr (3, [.ref (ad 1), .ref (ad 5), .ref (ad 6), .ref (ad 7), .ref (ad 8), .int (iI x_keywords_given), .int (iI x_keywords_alive)])), ((ad 1), .inr (2, [.int (iI x_folding_on)])), ((ad 5), .inl (cI, 1920, .inl (mI a_keywords_bytes))), ((ad 6), .inl (cI, 120, .inl (mI a_keywords_lengths))), ((ad 7), .inl (cI, 120, .inl (mI a_keywords_weights))), ((ad 8), .inl (cZ, 120, .inl (mI a_keywords_lives)))] s.heap := hP.sub [4, 1, 5, 6, 7, 8] rfl
      refine k_rV (As := [.int (iI pz1)]) (rest := []) (st1 := [.int (iI vz5)]) ⟨hx, hb, hml, hown, hts⟩ hK hPc (c_X3_lengthOf l D cI cZ cJ hcz) (cwV 1 hts gX7_overlapLength_X3_lengthOf rfl rfl rfl (by decide +kernel) ⟨Nat.le_of_ble_eq_true rfl, Nat.le_of_ble_eq_true rfl⟩) 0 rfl rfl rfl rfl hl.1 rfl (lv_room (Nat.le_of_ble_eq_true rfl)) dX7_overlapLength_48 ⟨Nat.zero_le _, Nat.zero_le _⟩ rfl ?_
      refine lv_aload_n hx hb dX7_overlapLength_51 rfl (lv_at hl 1 rfl) ?_
      refine va_get (ci := 7) (v := .ref (ad 4)) (C := RX7) (T := TX7) (N := 15) hx hb hts hiX7 hown hK hP 0 rfl rfl 2 (by decide) hf30 (fun _ h9 => h9) rfl dX7_overlapLength_52 ?_
      refine lv_iload_n hx hb dX7_overlapLength_55 rfl (lv_at hl 3 rfl) ?_
      obtain ⟨vz6, hcz, hs⟩ := bd1_some hs
      have hPc : va_P D vwCl [((ad 4), .inr (3, [.ref (ad 1), .ref (ad 5), .ref (ad 6), .ref (ad 7), .ref (ad 8), .int (iI x_keywords_given), .int (iI x_keywords_alive)])), ((ad 1), .inr (2, [.int (iI x_folding_on)])), ((ad 5), .inl (cI, 1920, .inl (mI a_keywords_bytes))), ((ad 6), .inl (cI, 120, .inl (mI a_keywords_lengths))), ((ad 7), .inl (cI, 120, .inl (mI a_keywords_weights))), ((ad 8), .inl (cZ, 120, .inl (mI a_keywords_lives)))] s.heap := hP.sub [4, 1, 5, 6, 7, 8] rfl
      refine k_rV (As := [.int (iI pz2)]) (rest := [.int (iI vz5)]) (st1 := [.int (iI vz6), .int (iI vz5)]) ⟨hx, hb, hml, hown, hts⟩ hK hPc (c_X3_lengthOf l D cI cZ cJ hcz) (cwV 1 hts gX7_overlapLength_X3_lengthOf rfl rfl rfl (by decide +kernel) ⟨Nat.le_of_ble_eq_true rfl, Nat.le_of_ble_eq_true rfl⟩) 0 rfl rfl rfl rfl hl.1 rfl (lv_room (Nat.le_of_ble_eq_true rfl)) dX7_overlapLength_56 ⟨Nat.zero_le _, Nat.zero_le _⟩ rfl ?_
      refine k_mmin hx hb (hml.trans hl.1.symm) hown hm197 hst_min hin_Math hcd_min (Nat.le_of_ble_eq_true rfl) (Nat.le_of_ble_eq_true rfl) (Nat.zero_le _) (Nat.zero_le _) hs dX7_overlapLength_59 (fun hs => ?_)
      refine k_iconst (n := 1) hx hb dX7_overlapLength_62 ?_
      refine k_isub hx hb dX7_overlapLength_63 ?_
      refine lv_istore (lv' := [(4, .int (iI ((iMin vz5 vz6) - 1))), (3, .int (iI (vz3 + vz4))), (0, .ref (ad 0)), (1, .int (iI pz1)), (2, .int (iI pz2))]) hx hb dX7_overlapLength_64 hl (by decide) rfl (fun ls hl => ?_)
      refine lv_aload_n hx hb dX7_overlapLength_66 rfl (lv_at hl 2 rfl) ?_
      refine va_get (ci := 7) (v := .ref (ad 1)) (C := RX7) (T := TX7) (N := 15) hx hb hts hiX7 hown hK hP 0 rfl rfl 0 (by decide) hf12 (fun _ h9 => h9) rfl dX7_overlapLength_67 ?_
      refine lv_aload_n hx hb dX7_overlapLength_70 rfl (lv_at hl 2 rfl) ?_
      refine va_get (ci := 7) (v := .ref (ad 4)) (C := RX7) (T := TX7) (N := 15) hx hb hts hiX7 hown hK hP 0 rfl rfl 2 (by decide) hf30 (fun _ h9 => h9) rfl dX7_overlapLength_71 ?_
      refine va_get (ci := 3) (v := .ref (ad 5)) (C := RX3) (T := TX3) (N := 7) hx hb hts hiX3 hown hK hP 4 rfl rfl 1 (by decide) hf207 (fun _ h9 => h9) rfl dX7_overlapLength_74 ?_
      refine lv_iload_n hx hb dX7_overlapLength_77 rfl (lv_at hl 1 rfl) ?_
      refine lv_aload_n hx hb dX7_overlapLength_78 rfl (lv_at hl 2 rfl) ?_
      refine va_get (ci := 7) (v := .ref (ad 4)) (C := RX7) (T := TX7) (N := 15) hx hb hts hiX7 hown hK hP 0 rfl rfl 2 (by decide) hf30 (fun _ h9 => h9) rfl dX7_overlapLength_79 ?_
      refine va_get (ci := 3) (v := .ref (ad 5)) (C := RX3) (T := TX3) (N := 7) hx hb hts hiX3 hown hK hP 4 rfl rfl 1 (by decide) hf207 (fun _ h9 => h9) rfl dX7_overlapLength_82 ?_
      refine lv_aload_n hx hb dX7_overlapLength_85 rfl (lv_at hl 2 rfl) ?_
      refine va_get (ci := 7) (v := .ref (ad 4)) (C := RX7) (T := TX7) (N := 15) hx hb hts hiX7 hown hK hP 0 rfl rfl 2 (by decide) hf30 (fun _ h9 => h9) rfl dX7_overlapLength_86 ?_
      refine lv_iload_n hx hb dX7_overlapLength_89 rfl (lv_at hl 4 rfl) ?_
      obtain ⟨vz7, hcz, hs⟩ := bd1_some hs
      have hPc : va_P D vwCl [((ad 4), .inr (3, [.ref (ad 1), .ref (ad 5), .ref (ad 6), .ref (ad 7), .ref (ad 8), .int (iI x_keywords_given), .int (iI x_keywords_alive)])), ((ad 1), .inr (2, [.int (iI x_folding_on)])), ((ad 5), .inl (cI, 1920, .inl (mI a_keywords_bytes))), ((ad 6), .inl (cI, 120, .inl (mI a_keywords_lengths))), ((ad 7), .inl (cI, 120, .inl (mI a_keywords_weights))), ((ad 8), .inl (cZ, 120, .inl (mI a_keywords_lives)))] s.heap := hP.sub [4, 1, 5, 6, 7, 8] rfl
      refine k_rV (As := [.int (iI pz2)]) (rest := [.ref (ad 5), .int (iI (vz3 + vz4)), .ref (ad 5), .ref (ad 1)]) (st1 := [.int (iI vz7), .ref (ad 5), .int (iI (vz3 + vz4)), .ref (ad 5), .ref (ad 1)]) ⟨hx, hb, hml, hown, hts⟩ hK hPc (c_X3_firstByteOf l D cI cZ cJ hcz) (cwV 1 hts gX7_overlapLength_X3_firstByteOf rfl rfl rfl (by decide +kernel) ⟨Nat.le_of_ble_eq_true rfl, Nat.le_of_ble_eq_true rfl⟩) 0 rfl rfl rfl rfl hl.1 rfl (lv_room (Nat.le_of_ble_eq_true rfl)) dX7_overlapLength_90 ⟨Nat.zero_le _, Nat.zero_le _⟩ rfl ?_
      refine lv_iload hx hb dX7_overlapLength_93 (lv_at hl 0 rfl) ?_
      obtain ⟨vz8, hcz, hs⟩ := bd1_some hs
      have hPc : va_P D vwCl [((ad 1), .inr (2, [.int (iI x_folding_on)])), ((ad 5), .inl (cI, 1920, .inl (mI a_keywords_bytes))), ((ad 5), .inl (cI, 1920, .inl (mI a_keywords_bytes)))] s.heap := hP.sub [1, 5, 5] rfl
      refine k_rV (As := [.ref (ad 5), .int (iI (vz3 + vz4)), .ref (ad 5), .int (iI vz7), .int (iI ((iMin vz5 vz6) - 1))]) (rest := []) (st1 := [.int (iI vz8)]) ⟨hx, hb, hml, hown, hts⟩ hK hPc (c_X2_overlap l D cI cZ cJ (Nat.le_of_ble_eq_true rfl) (Nat.le_of_ble_eq_true rfl) hcz) (cwV 5 hts gX7_overlapLength_X2_overlap rfl rfl rfl (by decide +kernel) ⟨Nat.le_of_ble_eq_true rfl, Nat.le_of_ble_eq_true rfl⟩) 0 rfl rfl rfl rfl hl.1 rfl (lv_room (Nat.le_of_ble_eq_true rfl)) dX7_overlapLength_95 ⟨Nat.zero_le _, Nat.zero_le _⟩ rfl ?_
      cases hs
      exact k_iret_r hx hb hr hlk rfl dX7_overlapLength_98 rfl
/-! X7_nearMatchCount -/
set_option maxHeartbeats 4000000 in
set_option maxRecDepth 100000 in
theorem c_X7_nearMatchCount (l : Launch) (D : va_G) (cI cZ cJ : ClassId) {ad : Nat → Nat} {x_work : Int} {x_rebuilds : Int} {x_reported : Int} {x_folding_on : Int} {x_buffer_length : Int} {a_buffer_bytes : (Int → Int)} {x_keywords_given : Int} {x_keywords_alive : Int} {a_keywords_bytes : (Int → Int)} {a_keywords_lengths : (Int → Int)} {a_keywords_weights : (Int → Int)} {a_keywords_lives : (Int → Int)} {x_mainSet_count : Int} {a_mainSet_members : (Int → Int)} {x_removalSet_count : Int} {a_removalSet_members : (Int → Int)} {x_superstring_slots : Int} {x_superstring_built : Int} {b_superstring_sw : Bool} {a_superstring_starts : (Int → Int)} {a_superstring_lengths : (Int → Int)} {a_superstring_overlaps : (Int → Int)} {x_superstring_area_length : Int} {a_superstring_area_bytes : (Int → Int)} {x_superstring_spare_length : Int} {a_superstring_spare_bytes : (Int → Int)} {x_stream_length : Int} {a_stream_bytes : (Int → Int)} {a_matches_words : (Int → Int)} {x_reports_size : Int} {a_reports_positions : (Int → Int)} {a_reports_numbers : (Int → Int)} {x_chosen_size : Int} {a_chosen_positions : (Int → Int)} {a_chosen_numbers : (Int → Int)} {a_depths : (Int → Int)} {a_bestFrom : (Int → Int)} {pz1 : Int} {pz2 : Int} {r : Int} (hs : s_X7_nearMatchCount x_folding_on x_keywords_given a_keywords_bytes a_keywords_lengths a_keywords_lives x_stream_length a_stream_bytes pz1 pz2 = some r) : Met l yX7_nearMatchCount wsX7_nearMatchCount rm_X7_nearMatchCount (PR D vwCl [(cI, .int), (cZ, .boolean), (cJ, .long)] [.ref (ad 0), .int (iI pz1), .int (iI pz2)] (wK cI cZ cJ ad x_work x_rebuilds x_reported x_folding_on x_buffer_length a_buffer_bytes x_keywords_given x_keywords_alive a_keywords_bytes a_keywords_lengths a_keywords_weights a_keywords_lives x_mainSet_count a_mainSet_members x_removalSet_count a_removalSet_members x_superstring_slots x_superstring_built b_superstring_sw a_superstring_starts a_superstring_lengths a_superstring_overlaps x_superstring_area_length a_superstring_area_bytes x_superstring_spare_length a_superstring_spare_bytes x_stream_length a_stream_bytes a_matches_words x_reports_size a_reports_positions a_reports_numbers x_chosen_size a_chosen_positions a_chosen_numbers a_depths a_bestFrom)) (QR (some (.int (iI r)))) 0 0 (fun _ => False) := by
  refine Met.ofW (cc := cX7_nearMatchCount) (maxL := 6) (ret := (some .int)) (by decide) rfl ?_
  intro p e s m args below meth c s₁ B hml hv
  obtain ⟨hav, hP, hK⟩ := hv
  have hx := B.exec
  have hb := B.bytes
  have hr := B.returns
  have hts := atoms_spec (ws := wsX7_nearMatchCount) B.pre
  have hown : s.vm.findClass RX7 = some m.cls := findClass_of_methodNamed B.named
  have hlk := B.notSynchronized
  have hf30 : (Cond.fieldLink RX7 30 "KeywordMatcher" "keywords" "LKeywordMatcher$Keywords;").before args s = true := hts _ (List.mem_of_getElem? (i := 1) rfl)
  have hiX7 : ∀ w ∈ wsX70, w ∈ wsX7_nearMatchCount := fun w h => List.mem_cons_of_mem _ (List.mem_append_left _ (List.mem_append_left _ (List.mem_append_left _ (List.mem_append_right _ h))))
  have hf51 : (Cond.fieldLink RX7 51 "KeywordMatcher" "stream" "LKeywordMatcher$ByteRow;").before args s = true := hts _ (List.mem_of_getElem? (i := 2) rfl)
  have hf89 : (Cond.fieldLink RX7 89 "KeywordMatcher$ByteRow" "length" "I").before args s = true := hts _ (List.mem_of_getElem? (i := 3) rfl)
  have hiX1 : ∀ w ∈ wsX10, w ∈ wsX7_nearMatchCount := fun w h => List.mem_cons_of_mem _ (List.mem_append_left _ (List.mem_append_left _ (List.mem_append_right _ h)))
  have hl := lv_entry ([.ref (ad 0), .int (iI pz1), .int (iI pz2)]) (n := 6) (Nat.le_of_ble_eq_true rfl)
  rw [show entryFrame m args 6 = entryFrame m ([.ref (ad 0), .int (iI pz1), .int (iI pz2)] : List Value).toArray 6 from by rw [hav], lg_entry_eq]
  generalize (lg_sl ([.ref (ad 0), .int (iI pz1), .int (iI pz2)]) ++ List.replicate (6 - (lg_sl ([.ref (ad 0), .int (iI pz1), .int (iI pz2)])).length) Slot.unset).toArray = ls at hl ⊢
  have hl : lv_has ls 6 [(0, .ref (ad 0)), (1, .int (iI pz1)), (2, .int (iI pz2))] := hl
  unfold s_X7_nearMatchCount at hs
  have Lz49 : ∀ (fu : Nat) (l1 : Int) (l2 : Int) (l3 : Int) (l4 : Int) (l5 : Int) (y0 : Int), s_X7_nearMatchCount_49 fu x_folding_on x_keywords_given a_keywords_bytes a_keywords_lengths x_stream_length a_stream_bytes l1 l2 l3 l4 l5 = some y0 → ∀ ls : Array Slot, lv_has ls 6 [(0, .ref (ad 0)), (1, .int (iI l1)), (2, .int (iI l2)), (3, .int (iI l3)), (4, .int (iI l4)), (5, .int (iI l5))] → (∀ ls : Array Slot, lv_has ls 6 [(3, .int (iI y0))] → W p l e (headSpec wsX7_nearMatchCount rm_X7_nearMatchCount).room s m args below meth c s.heap [] 0 0 (MQ below (QR (some (.int (iI r)))) args s 0 0 (fun _ => False)) (F0 m 83 ls [])) → W p l e (headSpec wsX7_nearMatchCount rm_X7_nearMatchCount).room s m args below meth c s.heap [] 0 0 (MQ below (QR (some (.int (iI r)))) args s 0 0 (fun _ => False)) (F0 m 49 ls []) := by
    intro fu
    induction fu with
    | zero => intro l1 l2 l3 l4 l5 y0 hs; cases hs
    | succ fu ih =>
      intro l1 l2 l3 l4 l5 y0 hs ls hl kx
      rw [s_X7_nearMatchCount_49_s] at hs
      refine lv_iload hx hb dX7_nearMatchCount_49 (lv_at hl 5 rfl) ?_
      refine lv_iload hx hb dX7_nearMatchCount_51 (lv_at hl 4 rfl) ?_
      refine k_icmp_gt (tgt := 83) hx hb hs dX7_nearMatchCount_53 (by decide) (fun hs => ?_) (fun hs => ?_)
      · cases hs
        exact kx ls (lv_sub hl [3] rfl)
      · refine lv_aload_n hx hb dX7_nearMatchCount_56 rfl (lv_at hl 0 rfl) ?_
        refine va_get (ci := 7) (v := .ref (ad 4)) (C := RX7) (T := TX7) (N := 15) hx hb hts hiX7 hown hK hP 0 rfl rfl 2 (by decide) hf30 (fun _ h9 => h9) rfl dX7_nearMatchCount_57 ?_
        refine lv_iload_n hx hb dX7_nearMatchCount_60 rfl (lv_at hl 1 rfl) ?_
        refine lv_aload_n hx hb dX7_nearMatchCount_61 rfl (lv_at hl 0 rfl) ?_
        refine va_get (ci := 7) (v := .ref (ad 21)) (C := RX7) (T := TX7) (N := 15) hx hb hts hiX7 hown hK hP 0 rfl rfl 6 (by decide) hf51 (fun _ h9 => h9) rfl dX7_nearMatchCount_62 ?_
        refine lv_iload hx hb dX7_nearMatchCount_65 (lv_at hl 5 rfl) ?_
        obtain ⟨vz3, hcz, hs⟩ := bd1_some hs
        have hPc : va_P D vwCl [((ad 4), .inr (3, [.ref (ad 1), .ref (ad 5), .ref (ad 6), .ref (ad 7), .ref (ad 8), .int (iI x_keywords_given), .int (iI x_keywords_alive)])), ((ad 1), .inr (2, [.int (iI x_folding_on)])), ((ad 5), .inl (cI, 1920, .inl (mI a_keywords_bytes))), ((ad 6), .inl (cI, 120, .inl (mI a_keywords_lengths))), ((ad 7), .inl (cI, 120, .inl (mI a_keywords_weights))), ((ad 8), .inl (cZ, 120, .inl (mI a_keywords_lives))), ((ad 21), .inr (1, [.ref (ad 22), .int (iI x_stream_length)])), ((ad 22), .inl (cI, 600, .inl (mI a_stream_bytes)))] s.heap := hP.sub [4, 1, 5, 6, 7, 8, 21, 22] rfl
        refine k_rV (As := [.int (iI l1), .ref (ad 21), .int (iI l5)]) (rest := []) (st1 := [.int (iI vz3)]) ⟨hx, hb, hml, hown, hts⟩ hK hPc (c_X3_mismatchesAt l D cI cZ cJ (Nat.le_of_ble_eq_true rfl) hcz) (cwV 3 hts gX7_nearMatchCount_X3_mismatchesAt rfl rfl rfl (by decide +kernel) ⟨Nat.le_of_ble_eq_true rfl, Nat.le_of_ble_eq_true rfl⟩) 0 rfl rfl rfl rfl hl.1 rfl (lv_room (Nat.le_of_ble_eq_true rfl)) dX7_nearMatchCount_67 ⟨Nat.zero_le _, Nat.zero_le _⟩ rfl ?_
        refine lv_iload_n hx hb dX7_nearMatchCount_70 rfl (lv_at hl 2 rfl) ?_
        refine k_icmp_gt (tgt := 77) hx hb hs dX7_nearMatchCount_71 (by decide) (fun hs => ?_) (fun hs => ?_)
        · refine k_iinc (x := l5) (k := 5) (lv' := [(5, .int (iI (l5 + 1))), (0, .ref (ad 0)), (1, .int (iI l1)), (2, .int (iI l2)), (3, .int (iI l3)), (4, .int (iI l4))]) hx hb dX7_nearMatchCount_77 hl rfl (by decide) rfl (fun ls hl => ?_)
          refine lv_goto (tgt := 49) hx hb dX7_nearMatchCount_80 (by decide) ?_
          exact ih l1 l2 l3 l4 (l5 + 1) y0 hs ls (lv_sub hl [1, 2, 3, 4, 5, 0] rfl) kx
        · refine k_iinc (x := l3) (k := 3) (lv' := [(3, .int (iI (l3 + 1))), (0, .ref (ad 0)), (1, .int (iI l1)), (2, .int (iI l2)), (4, .int (iI l4)), (5, .int (iI l5))]) hx hb dX7_nearMatchCount_74 hl rfl (by decide) rfl (fun ls hl => ?_)
          refine k_iinc (x := l5) (k := 5) (lv' := [(5, .int (iI (l5 + 1))), (3, .int (iI (l3 + 1))), (0, .ref (ad 0)), (1, .int (iI l1)), (2, .int (iI l2)), (4, .int (iI l4))]) hx hb dX7_nearMatchCount_77 hl rfl (by decide) rfl (fun ls hl => ?_)
          refine lv_goto (tgt := 49) hx hb dX7_nearMatchCount_80 (by decide) ?_
          exact ih l1 l2 (l3 + 1) l4 (l5 + 1) y0 hs ls (lv_sub hl [2, 3, 4, 1, 5, 0] rfl) kx
  refine lv_aload_n hx hb dX7_nearMatchCount_0 rfl (lv_at hl 0 rfl) ?_
  refine va_get (ci := 7) (v := .ref (ad 4)) (C := RX7) (T := TX7) (N := 15) hx hb hts hiX7 hown hK hP 0 rfl rfl 2 (by decide) hf30 (fun _ h9 => h9) rfl dX7_nearMatchCount_1 ?_
  refine lv_iload_n hx hb dX7_nearMatchCount_4 rfl (lv_at hl 1 rfl) ?_
  obtain ⟨vz1, hcz, hs⟩ := bd1_some hs
  have hPc : va_P D vwCl [((ad 4), .inr (3, [.ref (ad 1), .ref (ad 5), .ref (ad 6), .ref (ad 7), .ref (ad 8), .int (iI x_keywords_given), .int (iI x_keywords_alive)])), ((ad 1), .inr (2, [.int (iI x_folding_on)])), ((ad 5), .inl (cI, 1920, .inl (mI a_keywords_bytes))), ((ad 6), .inl (cI, 120, .inl (mI a_keywords_lengths))), ((ad 7), .inl (cI, 120, .inl (mI a_keywords_weights))), ((ad 8), .inl (cZ, 120, .inl (mI a_keywords_lives)))] s.heap := hP.sub [4, 1, 5, 6, 7, 8] rfl
  refine k_rV (As := [.int (iI pz1)]) (rest := []) (st1 := [.int (iI vz1)]) ⟨hx, hb, hml, hown, hts⟩ hK hPc (c_X3_isAlive l D cI cZ cJ hcz) (cwV 1 hts gX7_nearMatchCount_X3_isAlive rfl rfl rfl (by decide +kernel) ⟨Nat.le_of_ble_eq_true rfl, Nat.le_of_ble_eq_true rfl⟩) 0 rfl rfl rfl rfl hl.1 rfl (lv_room (Nat.le_of_ble_eq_true rfl)) dX7_nearMatchCount_5 ⟨Nat.zero_le _, Nat.zero_le _⟩ rfl ?_
  refine k_if_ne (tgt := 14) hx hb hs dX7_nearMatchCount_8 (by decide) (fun hs => ?_) (fun hs => ?_)
  · refine k_bipush (n := (-2)) hx hb (by decide) dX7_nearMatchCount_11 ?_
    cases hs
    exact k_iret_r hx hb hr hlk rfl dX7_nearMatchCount_13 rfl
  · refine lv_iload_n hx hb dX7_nearMatchCount_14 rfl (lv_at hl 2 rfl) ?_
    refine k_if_lt (tgt := 23) hx hb hs dX7_nearMatchCount_15 (by decide) (fun hs => ?_) (fun hs => ?_)
    · refine k_bipush (n := (-3)) hx hb (by decide) dX7_nearMatchCount_23 ?_
      cases hs
      exact k_iret_r hx hb hr hlk rfl dX7_nearMatchCount_25 rfl
    · refine lv_iload_n hx hb dX7_nearMatchCount_18 rfl (lv_at hl 2 rfl) ?_
      refine k_iconst (n := 3) hx hb dX7_nearMatchCount_19 ?_
      refine k_icmp_le (tgt := 26) hx hb hs dX7_nearMatchCount_20 (by decide) (fun hs => ?_) (fun hs => ?_)
      · refine k_bipush (n := (-3)) hx hb (by decide) dX7_nearMatchCount_23 ?_
        cases hs
        exact k_iret_r hx hb hr hlk rfl dX7_nearMatchCount_25 rfl
      · refine k_iconst (n := 0) hx hb dX7_nearMatchCount_26 ?_
        refine lv_istore_n (lv' := [(3, .int (iI 0)), (0, .ref (ad 0)), (1, .int (iI pz1)), (2, .int (iI pz2))]) hx hb dX7_nearMatchCount_27 rfl hl (by decide) rfl (fun ls hl => ?_)
        refine lv_aload_n hx hb dX7_nearMatchCount_28 rfl (lv_at hl 1 rfl) ?_
        refine va_get (ci := 7) (v := .ref (ad 21)) (C := RX7) (T := TX7) (N := 15) hx hb hts hiX7 hown hK hP 0 rfl rfl 6 (by decide) hf51 (fun _ h9 => h9) rfl dX7_nearMatchCount_29 ?_
        refine va_get (ci := 1) (v := .int (iI x_stream_length)) (C := RX1) (T := TX1) (N := 2) hx hb hts hiX1 hown hK hP 21 rfl rfl 1 (by decide) hf89 (fun _ h9 => h9) rfl dX7_nearMatchCount_32 ?_
        refine lv_aload_n hx hb dX7_nearMatchCount_35 rfl (lv_at hl 1 rfl) ?_
        refine va_get (ci := 7) (v := .ref (ad 4)) (C := RX7) (T := TX7) (N := 15) hx hb hts hiX7 hown hK hP 0 rfl rfl 2 (by decide) hf30 (fun _ h9 => h9) rfl dX7_nearMatchCount_36 ?_
        refine lv_iload_n hx hb dX7_nearMatchCount_39 rfl (lv_at hl 2 rfl) ?_
        obtain ⟨vz2, hcz, hs⟩ := bd1_some hs
        have hPc : va_P D vwCl [((ad 4), .inr (3, [.ref (ad 1), .ref (ad 5), .ref (ad 6), .ref (ad 7), .ref (ad 8), .int (iI x_keywords_given), .int (iI x_keywords_alive)])), ((ad 1), .inr (2, [.int (iI x_folding_on)])), ((ad 5), .inl (cI, 1920, .inl (mI a_keywords_bytes))), ((ad 6), .inl (cI, 120, .inl (mI a_keywords_lengths))), ((ad 7), .inl (cI, 120, .inl (mI a_keywords_weights))), ((ad 8), .inl (cZ, 120, .inl (mI a_keywords_lives)))] s.heap := hP.sub [4, 1, 5, 6, 7, 8] rfl
        refine k_rV (As := [.int (iI pz1)]) (rest := [.int (iI x_stream_length)]) (st1 := [.int (iI vz2), .int (iI x_stream_length)]) ⟨hx, hb, hml, hown, hts⟩ hK hPc (c_X3_lengthOf l D cI cZ cJ hcz) (cwV 1 hts gX7_nearMatchCount_X3_lengthOf rfl rfl rfl (by decide +kernel) ⟨Nat.le_of_ble_eq_true rfl, Nat.le_of_ble_eq_true rfl⟩) 0 rfl rfl rfl rfl hl.1 rfl (lv_room (Nat.le_of_ble_eq_true rfl)) dX7_nearMatchCount_40 ⟨Nat.zero_le _, Nat.zero_le _⟩ rfl ?_
        refine k_isub hx hb dX7_nearMatchCount_43 ?_
        refine lv_istore (lv' := [(4, .int (iI (x_stream_length - vz2))), (3, .int (iI 0)), (0, .ref (ad 0)), (1, .int (iI pz1)), (2, .int (iI pz2))]) hx hb dX7_nearMatchCount_44 hl (by decide) rfl (fun ls hl => ?_)
        refine k_iconst (n := 0) hx hb dX7_nearMatchCount_46 ?_
        refine lv_istore (lv' := [(5, .int (iI 0)), (4, .int (iI (x_stream_length - vz2))), (3, .int (iI 0)), (0, .ref (ad 0)), (1, .int (iI pz1)), (2, .int (iI pz2))]) hx hb dX7_nearMatchCount_47 hl (by decide) rfl (fun ls hl => ?_)
        obtain ⟨ez4, hq, hs⟩ := bd1_some hs
        refine Lz49 FU pz1 pz2 0 (x_stream_length - vz2) 0 ez4 hq ls (lv_sub hl [3, 4, 5, 2, 1, 0] rfl) ?_
        intro ls hl
        refine lv_iload_n hx hb dX7_nearMatchCount_83 rfl (lv_at hl 0 rfl) ?_
        cases hs
        exact k_iret_r hx hb hr hlk rfl dX7_nearMatchCount_84 rfl
/-! X7_nearestPlace -/
set_option maxHeartbeats 4000000 in
set_option maxRecDepth 100000 in
theorem c_X7_nearestPlace (l : Launch) (D : va_G) (cI cZ cJ : ClassId) {ad : Nat → Nat} {x_work : Int} {x_rebuilds : Int} {x_reported : Int} {x_folding_on : Int} {x_buffer_length : Int} {a_buffer_bytes : (Int → Int)} {x_keywords_given : Int} {x_keywords_alive : Int} {a_keywords_bytes : (Int → Int)} {a_keywords_lengths : (Int → Int)} {a_keywords_weights : (Int → Int)} {a_keywords_lives : (Int → Int)} {x_mainSet_count : Int} {a_mainSet_members : (Int → Int)} {x_removalSet_count : Int} {a_removalSet_members : (Int → Int)} {x_superstring_slots : Int} {x_superstring_built : Int} {b_superstring_sw : Bool} {a_superstring_starts : (Int → Int)} {a_superstring_lengths : (Int → Int)} {a_superstring_overlaps : (Int → Int)} {x_superstring_area_length : Int} {a_superstring_area_bytes : (Int → Int)} {x_superstring_spare_length : Int} {a_superstring_spare_bytes : (Int → Int)} {x_stream_length : Int} {a_stream_bytes : (Int → Int)} {a_matches_words : (Int → Int)} {x_reports_size : Int} {a_reports_positions : (Int → Int)} {a_reports_numbers : (Int → Int)} {x_chosen_size : Int} {a_chosen_positions : (Int → Int)} {a_chosen_numbers : (Int → Int)} {a_depths : (Int → Int)} {a_bestFrom : (Int → Int)} {pz1 : Int} {r : Int} (hs : s_X7_nearestPlace x_folding_on x_keywords_given a_keywords_bytes a_keywords_lengths x_stream_length a_stream_bytes pz1 = some r) : Met l yX7_nearestPlace wsX7_nearestPlace rm_X7_nearestPlace (PR D vwCl [(cI, .int), (cZ, .boolean), (cJ, .long)] [.ref (ad 0), .int (iI pz1)] (wK cI cZ cJ ad x_work x_rebuilds x_reported x_folding_on x_buffer_length a_buffer_bytes x_keywords_given x_keywords_alive a_keywords_bytes a_keywords_lengths a_keywords_weights a_keywords_lives x_mainSet_count a_mainSet_members x_removalSet_count a_removalSet_members x_superstring_slots x_superstring_built b_superstring_sw a_superstring_starts a_superstring_lengths a_superstring_overlaps x_superstring_area_length a_superstring_area_bytes x_superstring_spare_length a_superstring_spare_bytes x_stream_length a_stream_bytes a_matches_words x_reports_size a_reports_positions a_reports_numbers x_chosen_size a_chosen_positions a_chosen_numbers a_depths a_bestFrom)) (QR (some (.int (iI r)))) 0 0 (fun _ => False) := by
  refine Met.ofW (cc := cX7_nearestPlace) (maxL := 7) (ret := (some .int)) (by decide) rfl ?_
  intro p e s m args below meth c s₁ B hml hv
  obtain ⟨hav, hP, hK⟩ := hv
  have hx := B.exec
  have hb := B.bytes
  have hr := B.returns
  have hts := atoms_spec (ws := wsX7_nearestPlace) B.pre
  have hown : s.vm.findClass RX7 = some m.cls := findClass_of_methodNamed B.named
  have hlk := B.notSynchronized
  have hf51 : (Cond.fieldLink RX7 51 "KeywordMatcher" "stream" "LKeywordMatcher$ByteRow;").before args s = true := hts _ (List.mem_of_getElem? (i := 1) rfl)
  have hiX7 : ∀ w ∈ wsX70, w ∈ wsX7_nearestPlace := fun w h => List.mem_cons_of_mem _ (List.mem_append_left _ (List.mem_append_left _ (List.mem_append_left _ (List.mem_append_right _ h))))
  have hf89 : (Cond.fieldLink RX7 89 "KeywordMatcher$ByteRow" "length" "I").before args s = true := hts _ (List.mem_of_getElem? (i := 2) rfl)
  have hiX1 : ∀ w ∈ wsX10, w ∈ wsX7_nearestPlace := fun w h => List.mem_cons_of_mem _ (List.mem_append_left _ (List.mem_append_left _ (List.mem_append_right _ h)))
  have hf30 : (Cond.fieldLink RX7 30 "KeywordMatcher" "keywords" "LKeywordMatcher$Keywords;").before args s = true := hts _ (List.mem_of_getElem? (i := 3) rfl)
  have hl := lv_entry ([.ref (ad 0), .int (iI pz1)]) (n := 7) (Nat.le_of_ble_eq_true rfl)
  rw [show entryFrame m args 7 = entryFrame m ([.ref (ad 0), .int (iI pz1)] : List Value).toArray 7 from by rw [hav], lg_entry_eq]
  generalize (lg_sl ([.ref (ad 0), .int (iI pz1)]) ++ List.replicate (7 - (lg_sl ([.ref (ad 0), .int (iI pz1)])).length) Slot.unset).toArray = ls at hl ⊢
  have hl : lv_has ls 7 [(0, .ref (ad 0)), (1, .int (iI pz1))] := hl
  unfold s_X7_nearestPlace at hs
  have Lz26 : ∀ (fu : Nat) (l1 : Int) (l2 : Int) (l3 : Int) (l4 : Int) (l5 : Int) (y0 : Int), s_X7_nearestPlace_26 fu x_folding_on x_keywords_given a_keywords_bytes a_keywords_lengths x_stream_length a_stream_bytes l1 l2 l3 l4 l5 = some y0 → ∀ ls : Array Slot, lv_has ls 7 [(0, .ref (ad 0)), (1, .int (iI l1)), (2, .int (iI l2)), (3, .int (iI l3)), (4, .int (iI l4)), (5, .int (iI l5))] → (∀ ls : Array Slot, lv_has ls 7 [(2, .int (iI y0))] → W p l e (headSpec wsX7_nearestPlace rm_X7_nearestPlace).room s m args below meth c s.heap [] 0 0 (MQ below (QR (some (.int (iI r)))) args s 0 0 (fun _ => False)) (F0 m 67 ls [])) → W p l e (headSpec wsX7_nearestPlace rm_X7_nearestPlace).room s m args below meth c s.heap [] 0 0 (MQ below (QR (some (.int (iI r)))) args s 0 0 (fun _ => False)) (F0 m 26 ls []) := by
    intro fu
    induction fu with
    | zero => intro l1 l2 l3 l4 l5 y0 hs; cases hs
    | succ fu ih =>
      intro l1 l2 l3 l4 l5 y0 hs ls hl kx
      rw [s_X7_nearestPlace_26_s] at hs
      refine lv_iload hx hb dX7_nearestPlace_26 (lv_at hl 5 rfl) ?_
      refine lv_iload hx hb dX7_nearestPlace_28 (lv_at hl 4 rfl) ?_
      refine k_icmp_gt (tgt := 67) hx hb hs dX7_nearestPlace_30 (by decide) (fun hs => ?_) (fun hs => ?_)
      · cases hs
        exact kx ls (lv_sub hl [2] rfl)
      · refine lv_aload_n hx hb dX7_nearestPlace_33 rfl (lv_at hl 0 rfl) ?_
        refine va_get (ci := 7) (v := .ref (ad 4)) (C := RX7) (T := TX7) (N := 15) hx hb hts hiX7 hown hK hP 0 rfl rfl 2 (by decide) hf30 (fun _ h9 => h9) rfl dX7_nearestPlace_34 ?_
        refine lv_iload_n hx hb dX7_nearestPlace_37 rfl (lv_at hl 1 rfl) ?_
        refine lv_aload_n hx hb dX7_nearestPlace_38 rfl (lv_at hl 0 rfl) ?_
        refine va_get (ci := 7) (v := .ref (ad 21)) (C := RX7) (T := TX7) (N := 15) hx hb hts hiX7 hown hK hP 0 rfl rfl 6 (by decide) hf51 (fun _ h9 => h9) rfl dX7_nearestPlace_39 ?_
        refine lv_iload hx hb dX7_nearestPlace_42 (lv_at hl 5 rfl) ?_
        obtain ⟨vz2, hcz, hs⟩ := bd1_some hs
        have hPc : va_P D vwCl [((ad 4), .inr (3, [.ref (ad 1), .ref (ad 5), .ref (ad 6), .ref (ad 7), .ref (ad 8), .int (iI x_keywords_given), .int (iI x_keywords_alive)])), ((ad 1), .inr (2, [.int (iI x_folding_on)])), ((ad 5), .inl (cI, 1920, .inl (mI a_keywords_bytes))), ((ad 6), .inl (cI, 120, .inl (mI a_keywords_lengths))), ((ad 7), .inl (cI, 120, .inl (mI a_keywords_weights))), ((ad 8), .inl (cZ, 120, .inl (mI a_keywords_lives))), ((ad 21), .inr (1, [.ref (ad 22), .int (iI x_stream_length)])), ((ad 22), .inl (cI, 600, .inl (mI a_stream_bytes)))] s.heap := hP.sub [4, 1, 5, 6, 7, 8, 21, 22] rfl
        refine k_rV (As := [.int (iI l1), .ref (ad 21), .int (iI l5)]) (rest := []) (st1 := [.int (iI vz2)]) ⟨hx, hb, hml, hown, hts⟩ hK hPc (c_X3_mismatchesAt l D cI cZ cJ (Nat.le_of_ble_eq_true rfl) hcz) (cwV 3 hts gX7_nearestPlace_X3_mismatchesAt rfl rfl rfl (by decide +kernel) ⟨Nat.le_of_ble_eq_true rfl, Nat.le_of_ble_eq_true rfl⟩) 0 rfl rfl rfl rfl hl.1 rfl (lv_room (Nat.le_of_ble_eq_true rfl)) dX7_nearestPlace_44 ⟨Nat.zero_le _, Nat.zero_le _⟩ rfl ?_
        refine lv_istore (lv' := [(6, .int (iI vz2)), (0, .ref (ad 0)), (1, .int (iI l1)), (2, .int (iI l2)), (3, .int (iI l3)), (4, .int (iI l4)), (5, .int (iI l5))]) hx hb dX7_nearestPlace_47 hl (by decide) rfl (fun ls hl => ?_)
        refine lv_iload hx hb dX7_nearestPlace_49 (lv_at hl 0 rfl) ?_
        refine lv_iload_n hx hb dX7_nearestPlace_51 rfl (lv_at hl 4 rfl) ?_
        refine k_icmp_ge (tgt := 61) hx hb hs dX7_nearestPlace_52 (by decide) (fun hs => ?_) (fun hs => ?_)
        · refine lv_iload hx hb dX7_nearestPlace_55 (lv_at hl 0 rfl) ?_
          refine lv_istore_n (lv' := [(3, .int (iI vz2)), (6, .int (iI vz2)), (0, .ref (ad 0)), (1, .int (iI l1)), (2, .int (iI l2)), (4, .int (iI l4)), (5, .int (iI l5))]) hx hb dX7_nearestPlace_57 rfl hl (by decide) rfl (fun ls hl => ?_)
          refine lv_iload hx hb dX7_nearestPlace_58 (lv_at hl 6 rfl) ?_
          refine lv_istore_n (lv' := [(2, .int (iI l5)), (3, .int (iI vz2)), (6, .int (iI vz2)), (0, .ref (ad 0)), (1, .int (iI l1)), (4, .int (iI l4)), (5, .int (iI l5))]) hx hb dX7_nearestPlace_60 rfl hl (by decide) rfl (fun ls hl => ?_)
          refine k_iinc (x := l5) (k := 6) (lv' := [(5, .int (iI (l5 + 1))), (2, .int (iI l5)), (3, .int (iI vz2)), (6, .int (iI vz2)), (0, .ref (ad 0)), (1, .int (iI l1)), (4, .int (iI l4))]) hx hb dX7_nearestPlace_61 hl rfl (by decide) rfl (fun ls hl => ?_)
          refine lv_goto (tgt := 26) hx hb dX7_nearestPlace_64 (by decide) ?_
          exact ih l1 l5 vz2 l4 (l5 + 1) y0 hs ls (lv_sub hl [4, 5, 1, 2, 6, 0] rfl) kx
        · refine k_iinc (x := l5) (k := 6) (lv' := [(5, .int (iI (l5 + 1))), (6, .int (iI vz2)), (0, .ref (ad 0)), (1, .int (iI l1)), (2, .int (iI l2)), (3, .int (iI l3)), (4, .int (iI l4))]) hx hb dX7_nearestPlace_61 hl rfl (by decide) rfl (fun ls hl => ?_)
          refine lv_goto (tgt := 26) hx hb dX7_nearestPlace_64 (by decide) ?_
          exact ih l1 l2 l3 l4 (l5 + 1) y0 hs ls (lv_sub hl [2, 3, 4, 5, 6, 0] rfl) kx
  refine k_iconst (n := (-1)) hx hb dX7_nearestPlace_0 ?_
  refine lv_istore_n (lv' := [(2, .int (iI (-1))), (0, .ref (ad 0)), (1, .int (iI pz1))]) hx hb dX7_nearestPlace_1 rfl hl (by decide) rfl (fun ls hl => ?_)
  refine k_bipush (n := 17) hx hb (by decide) dX7_nearestPlace_2 ?_
  refine lv_istore_n (lv' := [(3, .int (iI 17)), (2, .int (iI (-1))), (0, .ref (ad 0)), (1, .int (iI pz1))]) hx hb dX7_nearestPlace_4 rfl hl (by decide) rfl (fun ls hl => ?_)
  refine lv_aload_n hx hb dX7_nearestPlace_5 rfl (lv_at hl 2 rfl) ?_
  refine va_get (ci := 7) (v := .ref (ad 21)) (C := RX7) (T := TX7) (N := 15) hx hb hts hiX7 hown hK hP 0 rfl rfl 6 (by decide) hf51 (fun _ h9 => h9) rfl dX7_nearestPlace_6 ?_
  refine va_get (ci := 1) (v := .int (iI x_stream_length)) (C := RX1) (T := TX1) (N := 2) hx hb hts hiX1 hown hK hP 21 rfl rfl 1 (by decide) hf89 (fun _ h9 => h9) rfl dX7_nearestPlace_9 ?_
  refine lv_aload_n hx hb dX7_nearestPlace_12 rfl (lv_at hl 2 rfl) ?_
  refine va_get (ci := 7) (v := .ref (ad 4)) (C := RX7) (T := TX7) (N := 15) hx hb hts hiX7 hown hK hP 0 rfl rfl 2 (by decide) hf30 (fun _ h9 => h9) rfl dX7_nearestPlace_13 ?_
  refine lv_iload_n hx hb dX7_nearestPlace_16 rfl (lv_at hl 3 rfl) ?_
  obtain ⟨vz1, hcz, hs⟩ := bd1_some hs
  have hPc : va_P D vwCl [((ad 4), .inr (3, [.ref (ad 1), .ref (ad 5), .ref (ad 6), .ref (ad 7), .ref (ad 8), .int (iI x_keywords_given), .int (iI x_keywords_alive)])), ((ad 1), .inr (2, [.int (iI x_folding_on)])), ((ad 5), .inl (cI, 1920, .inl (mI a_keywords_bytes))), ((ad 6), .inl (cI, 120, .inl (mI a_keywords_lengths))), ((ad 7), .inl (cI, 120, .inl (mI a_keywords_weights))), ((ad 8), .inl (cZ, 120, .inl (mI a_keywords_lives)))] s.heap := hP.sub [4, 1, 5, 6, 7, 8] rfl
  refine k_rV (As := [.int (iI pz1)]) (rest := [.int (iI x_stream_length)]) (st1 := [.int (iI vz1), .int (iI x_stream_length)]) ⟨hx, hb, hml, hown, hts⟩ hK hPc (c_X3_lengthOf l D cI cZ cJ hcz) (cwV 1 hts gX7_nearestPlace_X3_lengthOf rfl rfl rfl (by decide +kernel) ⟨Nat.le_of_ble_eq_true rfl, Nat.le_of_ble_eq_true rfl⟩) 0 rfl rfl rfl rfl hl.1 rfl (lv_room (Nat.le_of_ble_eq_true rfl)) dX7_nearestPlace_17 ⟨Nat.zero_le _, Nat.zero_le _⟩ rfl ?_
  refine k_isub hx hb dX7_nearestPlace_20 ?_
  refine lv_istore (lv' := [(4, .int (iI (x_stream_length - vz1))), (3, .int (iI 17)), (2, .int (iI (-1))), (0, .ref (ad 0)), (1, .int (iI pz1))]) hx hb dX7_nearestPlace_21 hl (by decide) rfl (fun ls hl => ?_)
  refine k_iconst (n := 0) hx hb dX7_nearestPlace_23 ?_
  refine lv_istore (lv' := [(5, .int (iI 0)), (4, .int (iI (x_stream_length - vz1))), (3, .int (iI 17)), (2, .int (iI (-1))), (0, .ref (ad 0)), (1, .int (iI pz1))]) hx hb dX7_nearestPlace_24 hl (by decide) rfl (fun ls hl => ?_)
  obtain ⟨ez3, hq, hs⟩ := bd1_some hs
  refine Lz26 FU pz1 (-1) 17 (x_stream_length - vz1) 0 ez3 hq ls (lv_sub hl [4, 5, 3, 2, 1, 0] rfl) ?_
  intro ls hl
  refine lv_iload_n hx hb dX7_nearestPlace_67 rfl (lv_at hl 0 rfl) ?_
  cases hs
  exact k_iret_r hx hb hr hlk rfl dX7_nearestPlace_68 rfl
/-! X7_fewestMismatches -/
set_option maxHeartbeats 4000000 in
set_option maxRecDepth 100000 in
theorem c_X7_fewestMismatches (l : Launch) (D : va_G) (cI cZ cJ : ClassId) {ad : Nat → Nat} {x_work : Int} {x_rebuilds : Int} {x_reported : Int} {x_folding_on : Int} {x_buffer_length : Int} {a_buffer_bytes : (Int → Int)} {x_keywords_given : Int} {x_keywords_alive : Int} {a_keywords_bytes : (Int → Int)} {a_keywords_lengths : (Int → Int)} {a_keywords_weights : (Int → Int)} {a_keywords_lives : (Int → Int)} {x_mainSet_count : Int} {a_mainSet_members : (Int → Int)} {x_removalSet_count : Int} {a_removalSet_members : (Int → Int)} {x_superstring_slots : Int} {x_superstring_built : Int} {b_superstring_sw : Bool} {a_superstring_starts : (Int → Int)} {a_superstring_lengths : (Int → Int)} {a_superstring_overlaps : (Int → Int)} {x_superstring_area_length : Int} {a_superstring_area_bytes : (Int → Int)} {x_superstring_spare_length : Int} {a_superstring_spare_bytes : (Int → Int)} {x_stream_length : Int} {a_stream_bytes : (Int → Int)} {a_matches_words : (Int → Int)} {x_reports_size : Int} {a_reports_positions : (Int → Int)} {a_reports_numbers : (Int → Int)} {x_chosen_size : Int} {a_chosen_positions : (Int → Int)} {a_chosen_numbers : (Int → Int)} {a_depths : (Int → Int)} {a_bestFrom : (Int → Int)} {pz1 : Int} {r : Int} (hs : s_X7_fewestMismatches x_folding_on x_keywords_given a_keywords_bytes a_keywords_lengths a_keywords_lives x_stream_length a_stream_bytes pz1 = some r) : Met l yX7_fewestMismatches wsX7_fewestMismatches rm_X7_fewestMismatches (PR D vwCl [(cI, .int), (cZ, .boolean), (cJ, .long)] [.ref (ad 0), .int (iI pz1)] (wK cI cZ cJ ad x_work x_rebuilds x_reported x_folding_on x_buffer_length a_buffer_bytes x_keywords_given x_keywords_alive a_keywords_bytes a_keywords_lengths a_keywords_weights a_keywords_lives x_mainSet_count a_mainSet_members x_removalSet_count a_removalSet_members x_superstring_slots x_superstring_built b_superstring_sw a_superstring_starts a_superstring_lengths a_superstring_overlaps x_superstring_area_length a_superstring_area_bytes x_superstring_spare_length a_superstring_spare_bytes x_stream_length a_stream_bytes a_matches_words x_reports_size a_reports_positions a_reports_numbers x_chosen_size a_chosen_positions a_chosen_numbers a_depths a_bestFrom)) (QR (some (.int (iI r)))) 0 0 (fun _ => False) := by
  refine Met.ofW (cc := cX7_fewestMismatches) (maxL := 3) (ret := (some .int)) (by decide) rfl ?_
  intro p e s m args below meth c s₁ B hml hv
  obtain ⟨hav, hP, hK⟩ := hv
  have hx := B.exec
  have hb := B.bytes
  have hr := B.returns
  have hts := atoms_spec (ws := wsX7_fewestMismatches) B.pre
  have hown : s.vm.findClass RX7 = some m.cls := findClass_of_methodNamed B.named
  have hlk := B.notSynchronized
  have hf30 : (Cond.fieldLink RX7 30 "KeywordMatcher" "keywords" "LKeywordMatcher$Keywords;").before args s = true := hts _ (List.mem_of_getElem? (i := 1) rfl)
  have hiX7 : ∀ w ∈ wsX70, w ∈ wsX7_fewestMismatches := fun w h => List.mem_cons_of_mem _ (List.mem_append_left _ (List.mem_append_left _ (List.mem_append_left _ (List.mem_append_right _ h))))
  have hf51 : (Cond.fieldLink RX7 51 "KeywordMatcher" "stream" "LKeywordMatcher$ByteRow;").before args s = true := hts _ (List.mem_of_getElem? (i := 2) rfl)
  have hl := lv_entry ([.ref (ad 0), .int (iI pz1)]) (n := 3) (Nat.le_of_ble_eq_true rfl)
  rw [show entryFrame m args 3 = entryFrame m ([.ref (ad 0), .int (iI pz1)] : List Value).toArray 3 from by rw [hav], lg_entry_eq]
  generalize (lg_sl ([.ref (ad 0), .int (iI pz1)]) ++ List.replicate (3 - (lg_sl ([.ref (ad 0), .int (iI pz1)])).length) Slot.unset).toArray = ls at hl ⊢
  have hl : lv_has ls 3 [(0, .ref (ad 0)), (1, .int (iI pz1))] := hl
  unfold s_X7_fewestMismatches at hs
  refine lv_aload_n hx hb dX7_fewestMismatches_0 rfl (lv_at hl 0 rfl) ?_
  refine va_get (ci := 7) (v := .ref (ad 4)) (C := RX7) (T := TX7) (N := 15) hx hb hts hiX7 hown hK hP 0 rfl rfl 2 (by decide) hf30 (fun _ h9 => h9) rfl dX7_fewestMismatches_1 ?_
  refine lv_iload_n hx hb dX7_fewestMismatches_4 rfl (lv_at hl 1 rfl) ?_
  obtain ⟨vz1, hcz, hs⟩ := bd1_some hs
  have hPc : va_P D vwCl [((ad 4), .inr (3, [.ref (ad 1), .ref (ad 5), .ref (ad 6), .ref (ad 7), .ref (ad 8), .int (iI x_keywords_given), .int (iI x_keywords_alive)])), ((ad 1), .inr (2, [.int (iI x_folding_on)])), ((ad 5), .inl (cI, 1920, .inl (mI a_keywords_bytes))), ((ad 6), .inl (cI, 120, .inl (mI a_keywords_lengths))), ((ad 7), .inl (cI, 120, .inl (mI a_keywords_weights))), ((ad 8), .inl (cZ, 120, .inl (mI a_keywords_lives)))] s.heap := hP.sub [4, 1, 5, 6, 7, 8] rfl
  refine k_rV (As := [.int (iI pz1)]) (rest := []) (st1 := [.int (iI vz1)]) ⟨hx, hb, hml, hown, hts⟩ hK hPc (c_X3_isAlive l D cI cZ cJ hcz) (cwV 1 hts gX7_fewestMismatches_X3_isAlive rfl rfl rfl (by decide +kernel) ⟨Nat.le_of_ble_eq_true rfl, Nat.le_of_ble_eq_true rfl⟩) 0 rfl rfl rfl rfl hl.1 rfl (lv_room (Nat.le_of_ble_eq_true rfl)) dX7_fewestMismatches_5 ⟨Nat.zero_le _, Nat.zero_le _⟩ rfl ?_
  refine k_if_ne (tgt := 14) hx hb hs dX7_fewestMismatches_8 (by decide) (fun hs => ?_) (fun hs => ?_)
  · refine k_bipush (n := (-2)) hx hb (by decide) dX7_fewestMismatches_11 ?_
    cases hs
    exact k_iret_r hx hb hr hlk rfl dX7_fewestMismatches_13 rfl
  · refine lv_aload_n hx hb dX7_fewestMismatches_14 rfl (lv_at hl 0 rfl) ?_
    refine lv_iload_n hx hb dX7_fewestMismatches_15 rfl (lv_at hl 1 rfl) ?_
    obtain ⟨vz2, hcz, hs⟩ := bd1_some hs
    refine k_rV (As := [.int (iI pz1)]) (rest := []) (st1 := [.int (iI vz2)]) ⟨hx, hb, hml, hown, hts⟩ hK hP (c_X7_nearestPlace l D cI cZ cJ hcz) (cwV 1 hts gX7_fewestMismatches_X7_nearestPlace rfl rfl rfl (by decide +kernel) ⟨Nat.le_of_ble_eq_true rfl, Nat.le_of_ble_eq_true rfl⟩) 0 rfl rfl rfl rfl hl.1 rfl (lv_room (Nat.le_of_ble_eq_true rfl)) dX7_fewestMismatches_16 ⟨Nat.zero_le _, Nat.zero_le _⟩ rfl ?_
    refine lv_istore_n (lv' := [(2, .int (iI vz2)), (0, .ref (ad 0)), (1, .int (iI pz1))]) hx hb dX7_fewestMismatches_19 rfl hl (by decide) rfl (fun ls hl => ?_)
    refine lv_iload_n hx hb dX7_fewestMismatches_20 rfl (lv_at hl 0 rfl) ?_
    refine k_iconst (n := (-1)) hx hb dX7_fewestMismatches_21 ?_
    refine k_icmp_ne (tgt := 29) hx hb hs dX7_fewestMismatches_22 (by decide) (fun hs => ?_) (fun hs => ?_)
    · refine k_iconst (n := (-1)) hx hb dX7_fewestMismatches_25 ?_
      refine lv_goto (tgt := 42) hx hb dX7_fewestMismatches_26 (by decide) ?_
      cases hs
      exact k_iret_r hx hb hr hlk rfl dX7_fewestMismatches_42 rfl
    · refine lv_aload_n hx hb dX7_fewestMismatches_29 rfl (lv_at hl 1 rfl) ?_
      refine va_get (ci := 7) (v := .ref (ad 4)) (C := RX7) (T := TX7) (N := 15) hx hb hts hiX7 hown hK hP 0 rfl rfl 2 (by decide) hf30 (fun _ h9 => h9) rfl dX7_fewestMismatches_30 ?_
      refine lv_iload_n hx hb dX7_fewestMismatches_33 rfl (lv_at hl 2 rfl) ?_
      refine lv_aload_n hx hb dX7_fewestMismatches_34 rfl (lv_at hl 1 rfl) ?_
      refine va_get (ci := 7) (v := .ref (ad 21)) (C := RX7) (T := TX7) (N := 15) hx hb hts hiX7 hown hK hP 0 rfl rfl 6 (by decide) hf51 (fun _ h9 => h9) rfl dX7_fewestMismatches_35 ?_
      refine lv_iload_n hx hb dX7_fewestMismatches_38 rfl (lv_at hl 0 rfl) ?_
      obtain ⟨vz3, hcz, hs⟩ := bd1_some hs
      have hPc : va_P D vwCl [((ad 4), .inr (3, [.ref (ad 1), .ref (ad 5), .ref (ad 6), .ref (ad 7), .ref (ad 8), .int (iI x_keywords_given), .int (iI x_keywords_alive)])), ((ad 1), .inr (2, [.int (iI x_folding_on)])), ((ad 5), .inl (cI, 1920, .inl (mI a_keywords_bytes))), ((ad 6), .inl (cI, 120, .inl (mI a_keywords_lengths))), ((ad 7), .inl (cI, 120, .inl (mI a_keywords_weights))), ((ad 8), .inl (cZ, 120, .inl (mI a_keywords_lives))), ((ad 21), .inr (1, [.ref (ad 22), .int (iI x_stream_length)])), ((ad 22), .inl (cI, 600, .inl (mI a_stream_bytes)))] s.heap := hP.sub [4, 1, 5, 6, 7, 8, 21, 22] rfl
      refine k_rV (As := [.int (iI pz1), .ref (ad 21), .int (iI vz2)]) (rest := []) (st1 := [.int (iI vz3)]) ⟨hx, hb, hml, hown, hts⟩ hK hPc (c_X3_mismatchesAt l D cI cZ cJ (Nat.le_of_ble_eq_true rfl) hcz) (cwV 3 hts gX7_fewestMismatches_X3_mismatchesAt rfl rfl rfl (by decide +kernel) ⟨Nat.le_of_ble_eq_true rfl, Nat.le_of_ble_eq_true rfl⟩) 0 rfl rfl rfl rfl hl.1 rfl (lv_room (Nat.le_of_ble_eq_true rfl)) dX7_fewestMismatches_39 ⟨Nat.zero_le _, Nat.zero_le _⟩ rfl ?_
      cases hs
      exact k_iret_r hx hb hr hlk rfl dX7_fewestMismatches_42 rfl
/-! X7_nearestStart -/
set_option maxHeartbeats 4000000 in
set_option maxRecDepth 100000 in
theorem c_X7_nearestStart (l : Launch) (D : va_G) (cI cZ cJ : ClassId) {ad : Nat → Nat} {x_work : Int} {x_rebuilds : Int} {x_reported : Int} {x_folding_on : Int} {x_buffer_length : Int} {a_buffer_bytes : (Int → Int)} {x_keywords_given : Int} {x_keywords_alive : Int} {a_keywords_bytes : (Int → Int)} {a_keywords_lengths : (Int → Int)} {a_keywords_weights : (Int → Int)} {a_keywords_lives : (Int → Int)} {x_mainSet_count : Int} {a_mainSet_members : (Int → Int)} {x_removalSet_count : Int} {a_removalSet_members : (Int → Int)} {x_superstring_slots : Int} {x_superstring_built : Int} {b_superstring_sw : Bool} {a_superstring_starts : (Int → Int)} {a_superstring_lengths : (Int → Int)} {a_superstring_overlaps : (Int → Int)} {x_superstring_area_length : Int} {a_superstring_area_bytes : (Int → Int)} {x_superstring_spare_length : Int} {a_superstring_spare_bytes : (Int → Int)} {x_stream_length : Int} {a_stream_bytes : (Int → Int)} {a_matches_words : (Int → Int)} {x_reports_size : Int} {a_reports_positions : (Int → Int)} {a_reports_numbers : (Int → Int)} {x_chosen_size : Int} {a_chosen_positions : (Int → Int)} {a_chosen_numbers : (Int → Int)} {a_depths : (Int → Int)} {a_bestFrom : (Int → Int)} {pz1 : Int} {r : Int} (hs : s_X7_nearestStart x_folding_on x_keywords_given a_keywords_bytes a_keywords_lengths a_keywords_lives x_stream_length a_stream_bytes pz1 = some r) : Met l yX7_nearestStart wsX7_nearestStart rm_X7_nearestStart (PR D vwCl [(cI, .int), (cZ, .boolean), (cJ, .long)] [.ref (ad 0), .int (iI pz1)] (wK cI cZ cJ ad x_work x_rebuilds x_reported x_folding_on x_buffer_length a_buffer_bytes x_keywords_given x_keywords_alive a_keywords_bytes a_keywords_lengths a_keywords_weights a_keywords_lives x_mainSet_count a_mainSet_members x_removalSet_count a_removalSet_members x_superstring_slots x_superstring_built b_superstring_sw a_superstring_starts a_superstring_lengths a_superstring_overlaps x_superstring_area_length a_superstring_area_bytes x_superstring_spare_length a_superstring_spare_bytes x_stream_length a_stream_bytes a_matches_words x_reports_size a_reports_positions a_reports_numbers x_chosen_size a_chosen_positions a_chosen_numbers a_depths a_bestFrom)) (QR (some (.int (iI r)))) 0 0 (fun _ => False) := by
  refine Met.ofW (cc := cX7_nearestStart) (maxL := 2) (ret := (some .int)) (by decide) rfl ?_
  intro p e s m args below meth c s₁ B hml hv
  obtain ⟨hav, hP, hK⟩ := hv
  have hx := B.exec
  have hb := B.bytes
  have hr := B.returns
  have hts := atoms_spec (ws := wsX7_nearestStart) B.pre
  have hown : s.vm.findClass RX7 = some m.cls := findClass_of_methodNamed B.named
  have hlk := B.notSynchronized
  have hf30 : (Cond.fieldLink RX7 30 "KeywordMatcher" "keywords" "LKeywordMatcher$Keywords;").before args s = true := hts _ (List.mem_of_getElem? (i := 1) rfl)
  have hiX7 : ∀ w ∈ wsX70, w ∈ wsX7_nearestStart := fun w h => List.mem_cons_of_mem _ (List.mem_append_left _ (List.mem_append_left _ (List.mem_append_left _ (List.mem_append_right _ h))))
  have hl := lv_entry ([.ref (ad 0), .int (iI pz1)]) (n := 2) (Nat.le_of_ble_eq_true rfl)
  rw [show entryFrame m args 2 = entryFrame m ([.ref (ad 0), .int (iI pz1)] : List Value).toArray 2 from by rw [hav], lg_entry_eq]
  generalize (lg_sl ([.ref (ad 0), .int (iI pz1)]) ++ List.replicate (2 - (lg_sl ([.ref (ad 0), .int (iI pz1)])).length) Slot.unset).toArray = ls at hl ⊢
  have hl : lv_has ls 2 [(0, .ref (ad 0)), (1, .int (iI pz1))] := hl
  unfold s_X7_nearestStart at hs
  refine lv_aload_n hx hb dX7_nearestStart_0 rfl (lv_at hl 0 rfl) ?_
  refine va_get (ci := 7) (v := .ref (ad 4)) (C := RX7) (T := TX7) (N := 15) hx hb hts hiX7 hown hK hP 0 rfl rfl 2 (by decide) hf30 (fun _ h9 => h9) rfl dX7_nearestStart_1 ?_
  refine lv_iload_n hx hb dX7_nearestStart_4 rfl (lv_at hl 1 rfl) ?_
  obtain ⟨vz1, hcz, hs⟩ := bd1_some hs
  have hPc : va_P D vwCl [((ad 4), .inr (3, [.ref (ad 1), .ref (ad 5), .ref (ad 6), .ref (ad 7), .ref (ad 8), .int (iI x_keywords_given), .int (iI x_keywords_alive)])), ((ad 1), .inr (2, [.int (iI x_folding_on)])), ((ad 5), .inl (cI, 1920, .inl (mI a_keywords_bytes))), ((ad 6), .inl (cI, 120, .inl (mI a_keywords_lengths))), ((ad 7), .inl (cI, 120, .inl (mI a_keywords_weights))), ((ad 8), .inl (cZ, 120, .inl (mI a_keywords_lives)))] s.heap := hP.sub [4, 1, 5, 6, 7, 8] rfl
  refine k_rV (As := [.int (iI pz1)]) (rest := []) (st1 := [.int (iI vz1)]) ⟨hx, hb, hml, hown, hts⟩ hK hPc (c_X3_isAlive l D cI cZ cJ hcz) (cwV 1 hts gX7_nearestStart_X3_isAlive rfl rfl rfl (by decide +kernel) ⟨Nat.le_of_ble_eq_true rfl, Nat.le_of_ble_eq_true rfl⟩) 0 rfl rfl rfl rfl hl.1 rfl (lv_room (Nat.le_of_ble_eq_true rfl)) dX7_nearestStart_5 ⟨Nat.zero_le _, Nat.zero_le _⟩ rfl ?_
  refine k_if_eq (tgt := 19) hx hb hs dX7_nearestStart_8 (by decide) (fun hs => ?_) (fun hs => ?_)
  · refine k_bipush (n := (-2)) hx hb (by decide) dX7_nearestStart_19 ?_
    cases hs
    exact k_iret_r hx hb hr hlk rfl dX7_nearestStart_21 rfl
  · refine lv_aload_n hx hb dX7_nearestStart_11 rfl (lv_at hl 0 rfl) ?_
    refine lv_iload_n hx hb dX7_nearestStart_12 rfl (lv_at hl 1 rfl) ?_
    obtain ⟨vz2, hcz, hs⟩ := bd1_some hs
    refine k_rV (As := [.int (iI pz1)]) (rest := []) (st1 := [.int (iI vz2)]) ⟨hx, hb, hml, hown, hts⟩ hK hP (c_X7_nearestPlace l D cI cZ cJ hcz) (cwV 1 hts gX7_nearestStart_X7_nearestPlace rfl rfl rfl (by decide +kernel) ⟨Nat.le_of_ble_eq_true rfl, Nat.le_of_ble_eq_true rfl⟩) 0 rfl rfl rfl rfl hl.1 rfl (lv_room (Nat.le_of_ble_eq_true rfl)) dX7_nearestStart_13 ⟨Nat.zero_le _, Nat.zero_le _⟩ rfl ?_
    refine lv_goto (tgt := 21) hx hb dX7_nearestStart_16 (by decide) ?_
    cases hs
    exact k_iret_r hx hb hr hlk rfl dX7_nearestStart_21 rfl
/-! X7_superstringLength -/
set_option maxHeartbeats 4000000 in
set_option maxRecDepth 100000 in
theorem c_X7_superstringLength (l : Launch) (D : va_G) (cI cZ cJ : ClassId) {ad : Nat → Nat} {x_work : Int} {x_rebuilds : Int} {x_reported : Int} {x_folding_on : Int} {x_buffer_length : Int} {a_buffer_bytes : (Int → Int)} {x_keywords_given : Int} {x_keywords_alive : Int} {a_keywords_bytes : (Int → Int)} {a_keywords_lengths : (Int → Int)} {a_keywords_weights : (Int → Int)} {a_keywords_lives : (Int → Int)} {x_mainSet_count : Int} {a_mainSet_members : (Int → Int)} {x_removalSet_count : Int} {a_removalSet_members : (Int → Int)} {x_superstring_slots : Int} {x_superstring_built : Int} {b_superstring_sw : Bool} {a_superstring_starts : (Int → Int)} {a_superstring_lengths : (Int → Int)} {a_superstring_overlaps : (Int → Int)} {x_superstring_area_length : Int} {a_superstring_area_bytes : (Int → Int)} {x_superstring_spare_length : Int} {a_superstring_spare_bytes : (Int → Int)} {x_stream_length : Int} {a_stream_bytes : (Int → Int)} {a_matches_words : (Int → Int)} {x_reports_size : Int} {a_reports_positions : (Int → Int)} {a_reports_numbers : (Int → Int)} {x_chosen_size : Int} {a_chosen_positions : (Int → Int)} {a_chosen_numbers : (Int → Int)} {a_depths : (Int → Int)} {a_bestFrom : (Int → Int)} {r : Int} {y_x_superstring_slots : Int} {y_x_superstring_built : Int} {y_b_superstring_sw : Bool} {y_a_superstring_starts : (Int → Int)} {y_a_superstring_lengths : (Int → Int)} {y_a_superstring_overlaps : (Int → Int)} {y_x_superstring_area_length : Int} {y_a_superstring_area_bytes : (Int → Int)} {y_x_superstring_spare_length : Int} {y_a_superstring_spare_bytes : (Int → Int)} {sz : Nat} (hs : s_X7_superstringLength x_folding_on x_keywords_given a_keywords_bytes a_keywords_lengths a_keywords_lives x_superstring_slots x_superstring_built b_superstring_sw a_superstring_starts a_superstring_lengths a_superstring_overlaps x_superstring_area_length a_superstring_area_bytes x_superstring_spare_length a_superstring_spare_bytes = some (r, y_x_superstring_slots, y_x_superstring_built, y_b_superstring_sw, y_a_superstring_starts, y_a_superstring_lengths, y_a_superstring_overlaps, y_x_superstring_area_length, y_a_superstring_area_bytes, y_x_superstring_spare_length, y_a_superstring_spare_bytes)) : Met l yX7_superstringLength wsX7_superstringLength rm_X7_superstringLength (PW D vwCl [(cI, .int), (cZ, .boolean), (cJ, .long)] [.ref (ad 0)] (wK cI cZ cJ ad x_work x_rebuilds x_reported x_folding_on x_buffer_length a_buffer_bytes x_keywords_given x_keywords_alive a_keywords_bytes a_keywords_lengths a_keywords_weights a_keywords_lives x_mainSet_count a_mainSet_members x_removalSet_count a_removalSet_members x_superstring_slots x_superstring_built b_superstring_sw a_superstring_starts a_superstring_lengths a_superstring_overlaps x_superstring_area_length a_superstring_area_bytes x_superstring_spare_length a_superstring_spare_bytes x_stream_length a_stream_bytes a_matches_words x_reports_size a_reports_positions a_reports_numbers x_chosen_size a_chosen_positions a_chosen_numbers a_depths a_bestFrom) sz) (QW D vwCl (some (.int (iI r))) (wK cI cZ cJ ad x_work x_rebuilds x_reported x_folding_on x_buffer_length a_buffer_bytes x_keywords_given x_keywords_alive a_keywords_bytes a_keywords_lengths a_keywords_weights a_keywords_lives x_mainSet_count a_mainSet_members x_removalSet_count a_removalSet_members y_x_superstring_slots y_x_superstring_built y_b_superstring_sw y_a_superstring_starts y_a_superstring_lengths y_a_superstring_overlaps y_x_superstring_area_length y_a_superstring_area_bytes y_x_superstring_spare_length y_a_superstring_spare_bytes x_stream_length a_stream_bytes a_matches_words x_reports_size a_reports_positions a_reports_numbers x_chosen_size a_chosen_positions a_chosen_numbers a_depths a_bestFrom) (va_A (wK cI cZ cJ ad x_work x_rebuilds x_reported x_folding_on x_buffer_length a_buffer_bytes x_keywords_given x_keywords_alive a_keywords_bytes a_keywords_lengths a_keywords_weights a_keywords_lives x_mainSet_count a_mainSet_members x_removalSet_count a_removalSet_members x_superstring_slots x_superstring_built b_superstring_sw a_superstring_starts a_superstring_lengths a_superstring_overlaps x_superstring_area_length a_superstring_area_bytes x_superstring_spare_length a_superstring_spare_bytes x_stream_length a_stream_bytes a_matches_words x_reports_size a_reports_positions a_reports_numbers x_chosen_size a_chosen_positions a_chosen_numbers a_depths a_bestFrom) sz)) 0 0 (va_A (wK cI cZ cJ ad x_work x_rebuilds x_reported x_folding_on x_buffer_length a_buffer_bytes x_keywords_given x_keywords_alive a_keywords_bytes a_keywords_lengths a_keywords_weights a_keywords_lives x_mainSet_count a_mainSet_members x_removalSet_count a_removalSet_members x_superstring_slots x_superstring_built b_superstring_sw a_superstring_starts a_superstring_lengths a_superstring_overlaps x_superstring_area_length a_superstring_area_bytes x_superstring_spare_length a_superstring_spare_bytes x_stream_length a_stream_bytes a_matches_words x_reports_size a_reports_positions a_reports_numbers x_chosen_size a_chosen_positions a_chosen_numbers a_depths a_bestFrom) sz) := by
  refine Met.ofW (cc := cX7_superstringLength) (maxL := 1) (ret := (some .int)) (by decide) rfl ?_
  intro p e s m args below meth c s₁ B hml hv
  obtain ⟨hav, hsz, hP, hK, hD0⟩ := hv
  have hx := B.exec
  have hb := B.bytes
  have hr := B.returns
  have hts := atoms_spec (ws := wsX7_superstringLength) B.pre
  have hown : s.vm.findClass RX7 = some m.cls := findClass_of_methodNamed B.named
  have hlk := B.notSynchronized
  have hf47 : (Cond.fieldLink RX7 47 "KeywordMatcher" "superstring" "LKeywordMatcher$Superstring;").before args s = true := hts _ (List.mem_of_getElem? (i := 1) rfl)
  have hiX7 : ∀ w ∈ wsX70, w ∈ wsX7_superstringLength := fun w h => List.mem_cons_of_mem _ (List.mem_append_left _ (List.mem_append_left _ (List.mem_append_left _ (List.mem_append_left _ (List.mem_append_right _ h)))))
  have hf30 : (Cond.fieldLink RX7 30 "KeywordMatcher" "keywords" "LKeywordMatcher$Keywords;").before args s = true := hts _ (List.mem_of_getElem? (i := 2) rfl)
  have hf286 : (Cond.fieldLink RX7 286 "KeywordMatcher$Superstring" "area" "LKeywordMatcher$ByteRow;").before args s = true := hts _ (List.mem_of_getElem? (i := 3) rfl)
  have hiX6 : ∀ w ∈ wsX60, w ∈ wsX7_superstringLength := fun w h => List.mem_cons_of_mem _ (List.mem_append_left _ (List.mem_append_left _ (List.mem_append_left _ (List.mem_append_right _ h))))
  have hf89 : (Cond.fieldLink RX7 89 "KeywordMatcher$ByteRow" "length" "I").before args s = true := hts _ (List.mem_of_getElem? (i := 4) rfl)
  have hiX1 : ∀ w ∈ wsX10, w ∈ wsX7_superstringLength := fun w h => List.mem_cons_of_mem _ (List.mem_append_left _ (List.mem_append_left _ (List.mem_append_right _ h)))
  subst hsz
  have hD := hD0.self (sz := s.heap.size)
  generalize hAe : va_A (wK cI cZ cJ ad x_work x_rebuilds x_reported x_folding_on x_buffer_length a_buffer_bytes x_keywords_given x_keywords_alive a_keywords_bytes a_keywords_lengths a_keywords_weights a_keywords_lives x_mainSet_count a_mainSet_members x_removalSet_count a_removalSet_members x_superstring_slots x_superstring_built b_superstring_sw a_superstring_starts a_superstring_lengths a_superstring_overlaps x_superstring_area_length a_superstring_area_bytes x_superstring_spare_length a_superstring_spare_bytes x_stream_length a_stream_bytes a_matches_words x_reports_size a_reports_positions a_reports_numbers x_chosen_size a_chosen_positions a_chosen_numbers a_depths a_bestFrom) s.heap.size = Az at hD ⊢
  have hA : ∀ q : Nat, s.heap.size ≤ q → Az q := fun q h => by rw [← hAe]; exact Or.inr h
  clear hAe
  have hSz : va_S Az s.heap s.heap [] := va_S.rf
  obtain ⟨wz, hw1⟩ : ∃ z : va_W, z = (wK cI cZ cJ ad x_work x_rebuilds x_reported x_folding_on x_buffer_length a_buffer_bytes x_keywords_given x_keywords_alive a_keywords_bytes a_keywords_lengths a_keywords_weights a_keywords_lives x_mainSet_count a_mainSet_members x_removalSet_count a_removalSet_members y_x_superstring_slots y_x_superstring_built y_b_superstring_sw y_a_superstring_starts y_a_superstring_lengths y_a_superstring_overlaps y_x_superstring_area_length y_a_superstring_area_bytes y_x_superstring_spare_length y_a_superstring_spare_bytes x_stream_length a_stream_bytes a_matches_words x_reports_size a_reports_positions a_reports_numbers x_chosen_size a_chosen_positions a_chosen_numbers a_depths a_bestFrom) := ⟨_, rfl⟩
  rw [← hw1]
  have hl := lv_entry ([.ref (ad 0)]) (n := 1) (Nat.le_of_ble_eq_true rfl)
  rw [show entryFrame m args 1 = entryFrame m ([.ref (ad 0)] : List Value).toArray 1 from by rw [hav], lg_entry_eq]
  generalize (lg_sl ([.ref (ad 0)]) ++ List.replicate (1 - (lg_sl ([.ref (ad 0)])).length) Slot.unset).toArray = ls at hl ⊢
  have hl : lv_has ls 1 [(0, .ref (ad 0))] := hl
  unfold s_X7_superstringLength at hs
  refine (?_ : ∀ (Hz : Heap) (lz : List Loc), va_P D vwCl (wK cI cZ cJ ad x_work x_rebuilds x_reported x_folding_on x_buffer_length a_buffer_bytes x_keywords_given x_keywords_alive a_keywords_bytes a_keywords_lengths a_keywords_weights a_keywords_lives x_mainSet_count a_mainSet_members x_removalSet_count a_removalSet_members x_superstring_slots x_superstring_built b_superstring_sw a_superstring_starts a_superstring_lengths a_superstring_overlaps x_superstring_area_length a_superstring_area_bytes x_superstring_spare_length a_superstring_spare_bytes x_stream_length a_stream_bytes a_matches_words x_reports_size a_reports_positions a_reports_numbers x_chosen_size a_chosen_positions a_chosen_numbers a_depths a_bestFrom) Hz → va_D Az (wK cI cZ cJ ad x_work x_rebuilds x_reported x_folding_on x_buffer_length a_buffer_bytes x_keywords_given x_keywords_alive a_keywords_bytes a_keywords_lengths a_keywords_weights a_keywords_lives x_mainSet_count a_mainSet_members x_removalSet_count a_removalSet_members x_superstring_slots x_superstring_built b_superstring_sw a_superstring_starts a_superstring_lengths a_superstring_overlaps x_superstring_area_length a_superstring_area_bytes x_superstring_spare_length a_superstring_spare_bytes x_stream_length a_stream_bytes a_matches_words x_reports_size a_reports_positions a_reports_numbers x_chosen_size a_chosen_positions a_chosen_numbers a_depths a_bestFrom) → va_S Az s.heap Hz lz → W p l e (headSpec wsX7_superstringLength rm_X7_superstringLength).room s m args below meth c Hz lz 0 0 (MQ below (QW D vwCl (some (.int (iI r))) wz Az) args s 0 0 Az) (F0 m 0 ls [])) s.heap [] hP hD hSz
  intro Hz lz hP hD hSz
  refine lv_aload_n hx hb dX7_superstringLength_0 rfl (lv_at hl 0 rfl) ?_
  refine va_get (ci := 7) (v := .ref (ad 13)) (C := RX7) (T := TX7) (N := 15) hx hb hts hiX7 hown hK hP 0 rfl rfl 5 (by decide) hf47 (fun _ h9 => h9) rfl dX7_superstringLength_1 ?_
  refine lv_aload_n hx hb dX7_superstringLength_4 rfl (lv_at hl 0 rfl) ?_
  refine va_get (ci := 7) (v := .ref (ad 4)) (C := RX7) (T := TX7) (N := 15) hx hb hts hiX7 hown hK hP 0 rfl rfl 2 (by decide) hf30 (fun _ h9 => h9) rfl dX7_superstringLength_5 ?_
  obtain ⟨vz1, vz2, vz3, vz4, vz5, vz6, vz7, vz8, vz9, vz10, hcz, hs⟩ := bd10_some hs
  refine k_wV (As := [.ref (ad 4)]) (rest := []) (st1 := []) (wc := (wSK cI cZ cJ (ad 13) (ad 1) (ad 14) (ad 15) (ad 16) (ad 17) (ad 18) (ad 19) (ad 20) (ad 4) (ad 5) (ad 6) (ad 7) (ad 8) x_superstring_slots x_superstring_built b_superstring_sw x_folding_on a_superstring_starts a_superstring_lengths a_superstring_overlaps x_superstring_area_length a_superstring_area_bytes x_superstring_spare_length a_superstring_spare_bytes x_keywords_given x_keywords_alive a_keywords_bytes a_keywords_lengths a_keywords_weights a_keywords_lives)) (w1 := (wSK cI cZ cJ (ad 13) (ad 1) (ad 14) (ad 15) (ad 16) (ad 17) (ad 18) (ad 19) (ad 20) (ad 4) (ad 5) (ad 6) (ad 7) (ad 8) vz1 vz2 vz3 x_folding_on vz4 vz5 vz6 vz7 vz8 vz9 vz10 x_keywords_given x_keywords_alive a_keywords_bytes a_keywords_lengths a_keywords_weights a_keywords_lives)) ⟨hx, hb, hml, hown, hts⟩ hK hP hD hSz hA [13, 1, 14, 15, 16, 17, 18, 19, 20, 4, 5, 6, 7, 8] rfl (by decide) (c_X6_build l D cI cZ cJ hcz) (cwV 1 hts gX7_superstringLength_X6_build rfl rfl rfl (by decide +kernel) ⟨Nat.le_of_ble_eq_true rfl, Nat.le_of_ble_eq_true rfl⟩) 13 rfl rfl rfl rfl rfl hl.1 rfl (lv_room (Nat.le_of_ble_eq_true rfl)) dX7_superstringLength_8 ⟨Nat.zero_le _, Nat.zero_le _⟩ rfl (fun Hz lz hP hD hSz => ?_)
  have hP : va_P D vwCl (wK cI cZ cJ ad x_work x_rebuilds x_reported x_folding_on x_buffer_length a_buffer_bytes x_keywords_given x_keywords_alive a_keywords_bytes a_keywords_lengths a_keywords_weights a_keywords_lives x_mainSet_count a_mainSet_members x_removalSet_count a_removalSet_members vz1 vz2 vz3 vz4 vz5 vz6 vz7 vz8 vz9 vz10 x_stream_length a_stream_bytes a_matches_words x_reports_size a_reports_positions a_reports_numbers x_chosen_size a_chosen_positions a_chosen_numbers a_depths a_bestFrom) Hz := hP
  have hD : va_D Az (wK cI cZ cJ ad x_work x_rebuilds x_reported x_folding_on x_buffer_length a_buffer_bytes x_keywords_given x_keywords_alive a_keywords_bytes a_keywords_lengths a_keywords_weights a_keywords_lives x_mainSet_count a_mainSet_members x_removalSet_count a_removalSet_members vz1 vz2 vz3 vz4 vz5 vz6 vz7 vz8 vz9 vz10 x_stream_length a_stream_bytes a_matches_words x_reports_size a_reports_positions a_reports_numbers x_chosen_size a_chosen_positions a_chosen_numbers a_depths a_bestFrom) := hD
  refine lv_aload_n hx hb dX7_superstringLength_11 rfl (lv_at hl 0 rfl) ?_
  refine va_get (ci := 7) (v := .ref (ad 13)) (C := RX7) (T := TX7) (N := 15) hx hb hts hiX7 hown hK hP 0 rfl rfl 5 (by decide) hf47 (fun _ h9 => h9) rfl dX7_superstringLength_12 ?_
  cases vz3 with
  | false =>
    refine va_get (ci := 6) (v := .ref (ad 17)) (C := RX6) (T := TX6) (N := 8) hx hb hts hiX6 hown hK hP 13 rfl rfl 4 (by decide) hf286 (fun _ h9 => h9) rfl dX7_superstringLength_15 ?_
    refine va_get (ci := 1) (v := .int (iI vz7)) (C := RX1) (T := TX1) (N := 2) hx hb hts hiX1 hown hK hP 17 rfl rfl 1 (by decide) hf89 (fun _ h9 => h9) rfl dX7_superstringLength_18 ?_
    cases hs
    exact k_iret_w hx hb hr hlk (by rw [hw1]; exact hP) hSz dX7_superstringLength_21 rfl
  | true =>
    refine va_get (ci := 6) (v := .ref (ad 19)) (C := RX6) (T := TX6) (N := 8) hx hb hts hiX6 hown hK hP 13 rfl rfl 4 (by decide) hf286 (fun _ h9 => h9) rfl dX7_superstringLength_15 ?_
    refine va_get (ci := 1) (v := .int (iI vz7)) (C := RX1) (T := TX1) (N := 2) hx hb hts hiX1 hown hK hP 19 rfl rfl 1 (by decide) hf89 (fun _ h9 => h9) rfl dX7_superstringLength_18 ?_
    cases hs
    exact k_iret_w hx hb hr hlk (by rw [hw1]; exact hP) hSz dX7_superstringLength_21 rfl
/-! X7_superstringByte -/
set_option maxHeartbeats 4000000 in
set_option maxRecDepth 100000 in
theorem c_X7_superstringByte (l : Launch) (D : va_G) (cI cZ cJ : ClassId) {ad : Nat → Nat} {x_work : Int} {x_rebuilds : Int} {x_reported : Int} {x_folding_on : Int} {x_buffer_length : Int} {a_buffer_bytes : (Int → Int)} {x_keywords_given : Int} {x_keywords_alive : Int} {a_keywords_bytes : (Int → Int)} {a_keywords_lengths : (Int → Int)} {a_keywords_weights : (Int → Int)} {a_keywords_lives : (Int → Int)} {x_mainSet_count : Int} {a_mainSet_members : (Int → Int)} {x_removalSet_count : Int} {a_removalSet_members : (Int → Int)} {x_superstring_slots : Int} {x_superstring_built : Int} {b_superstring_sw : Bool} {a_superstring_starts : (Int → Int)} {a_superstring_lengths : (Int → Int)} {a_superstring_overlaps : (Int → Int)} {x_superstring_area_length : Int} {a_superstring_area_bytes : (Int → Int)} {x_superstring_spare_length : Int} {a_superstring_spare_bytes : (Int → Int)} {x_stream_length : Int} {a_stream_bytes : (Int → Int)} {a_matches_words : (Int → Int)} {x_reports_size : Int} {a_reports_positions : (Int → Int)} {a_reports_numbers : (Int → Int)} {x_chosen_size : Int} {a_chosen_positions : (Int → Int)} {a_chosen_numbers : (Int → Int)} {a_depths : (Int → Int)} {a_bestFrom : (Int → Int)} {pz1 : Int} {r : Int} {y_x_superstring_slots : Int} {y_x_superstring_built : Int} {y_b_superstring_sw : Bool} {y_a_superstring_starts : (Int → Int)} {y_a_superstring_lengths : (Int → Int)} {y_a_superstring_overlaps : (Int → Int)} {y_x_superstring_area_length : Int} {y_a_superstring_area_bytes : (Int → Int)} {y_x_superstring_spare_length : Int} {y_a_superstring_spare_bytes : (Int → Int)} {sz : Nat} (hs : s_X7_superstringByte x_folding_on x_keywords_given a_keywords_bytes a_keywords_lengths a_keywords_lives x_superstring_slots x_superstring_built b_superstring_sw a_superstring_starts a_superstring_lengths a_superstring_overlaps x_superstring_area_length a_superstring_area_bytes x_superstring_spare_length a_superstring_spare_bytes pz1 = some (r, y_x_superstring_slots, y_x_superstring_built, y_b_superstring_sw, y_a_superstring_starts, y_a_superstring_lengths, y_a_superstring_overlaps, y_x_superstring_area_length, y_a_superstring_area_bytes, y_x_superstring_spare_length, y_a_superstring_spare_bytes)) : Met l yX7_superstringByte wsX7_superstringByte rm_X7_superstringByte (PW D vwCl [(cI, .int), (cZ, .boolean), (cJ, .long)] [.ref (ad 0), .int (iI pz1)] (wK cI cZ cJ ad x_work x_rebuilds x_reported x_folding_on x_buffer_length a_buffer_bytes x_keywords_given x_keywords_alive a_keywords_bytes a_keywords_lengths a_keywords_weights a_keywords_lives x_mainSet_count a_mainSet_members x_removalSet_count a_removalSet_members x_superstring_slots x_superstring_built b_superstring_sw a_superstring_starts a_superstring_lengths a_superstring_overlaps x_superstring_area_length a_superstring_area_bytes x_superstring_spare_length a_superstring_spare_bytes x_stream_length a_stream_bytes a_matches_words x_reports_size a_reports_positions a_reports_numbers x_chosen_size a_chosen_positions a_chosen_numbers a_depths a_bestFrom) sz) (QW D vwCl (some (.int (iI r))) (wK cI cZ cJ ad x_work x_rebuilds x_reported x_folding_on x_buffer_length a_buffer_bytes x_keywords_given x_keywords_alive a_keywords_bytes a_keywords_lengths a_keywords_weights a_keywords_lives x_mainSet_count a_mainSet_members x_removalSet_count a_removalSet_members y_x_superstring_slots y_x_superstring_built y_b_superstring_sw y_a_superstring_starts y_a_superstring_lengths y_a_superstring_overlaps y_x_superstring_area_length y_a_superstring_area_bytes y_x_superstring_spare_length y_a_superstring_spare_bytes x_stream_length a_stream_bytes a_matches_words x_reports_size a_reports_positions a_reports_numbers x_chosen_size a_chosen_positions a_chosen_numbers a_depths a_bestFrom) (va_A (wK cI cZ cJ ad x_work x_rebuilds x_reported x_folding_on x_buffer_length a_buffer_bytes x_keywords_given x_keywords_alive a_keywords_bytes a_keywords_lengths a_keywords_weights a_keywords_lives x_mainSet_count a_mainSet_members x_removalSet_count a_removalSet_members x_superstring_slots x_superstring_built b_superstring_sw a_superstring_starts a_superstring_lengths a_superstring_overlaps x_superstring_area_length a_superstring_area_bytes x_superstring_spare_length a_superstring_spare_bytes x_stream_length a_stream_bytes a_matches_words x_reports_size a_reports_positions a_reports_numbers x_chosen_size a_chosen_positions a_chosen_numbers a_depths a_bestFrom) sz)) 0 0 (va_A (wK cI cZ cJ ad x_work x_rebuilds x_reported x_folding_on x_buffer_length a_buffer_bytes x_keywords_given x_keywords_alive a_keywords_bytes a_keywords_lengths a_keywords_weights a_keywords_lives x_mainSet_count a_mainSet_members x_removalSet_count a_removalSet_members x_superstring_slots x_superstring_built b_superstring_sw a_superstring_starts a_superstring_lengths a_superstring_overlaps x_superstring_area_length a_superstring_area_bytes x_superstring_spare_length a_superstring_spare_bytes x_stream_length a_stream_bytes a_matches_words x_reports_size a_reports_positions a_reports_numbers x_chosen_size a_chosen_positions a_chosen_numbers a_depths a_bestFrom) sz) := by
  refine Met.ofW (cc := cX7_superstringByte) (maxL := 2) (ret := (some .int)) (by decide) rfl ?_
  intro p e s m args below meth c s₁ B hml hv
  obtain ⟨hav, hsz, hP, hK, hD0⟩ := hv
  have hx := B.exec
  have hb := B.bytes
  have hr := B.returns
  have hts := atoms_spec (ws := wsX7_superstringByte) B.pre
  have hown : s.vm.findClass RX7 = some m.cls := findClass_of_methodNamed B.named
  have hlk := B.notSynchronized
  have hf47 : (Cond.fieldLink RX7 47 "KeywordMatcher" "superstring" "LKeywordMatcher$Superstring;").before args s = true := hts _ (List.mem_of_getElem? (i := 1) rfl)
  have hiX7 : ∀ w ∈ wsX70, w ∈ wsX7_superstringByte := fun w h => List.mem_cons_of_mem _ (List.mem_append_left _ (List.mem_append_left _ (List.mem_append_left _ (List.mem_append_left _ (List.mem_append_right _ h)))))
  have hf30 : (Cond.fieldLink RX7 30 "KeywordMatcher" "keywords" "LKeywordMatcher$Keywords;").before args s = true := hts _ (List.mem_of_getElem? (i := 2) rfl)
  have hf286 : (Cond.fieldLink RX7 286 "KeywordMatcher$Superstring" "area" "LKeywordMatcher$ByteRow;").before args s = true := hts _ (List.mem_of_getElem? (i := 3) rfl)
  have hiX6 : ∀ w ∈ wsX60, w ∈ wsX7_superstringByte := fun w h => List.mem_cons_of_mem _ (List.mem_append_left _ (List.mem_append_left _ (List.mem_append_left _ (List.mem_append_right _ h))))
  subst hsz
  have hD := hD0.self (sz := s.heap.size)
  generalize hAe : va_A (wK cI cZ cJ ad x_work x_rebuilds x_reported x_folding_on x_buffer_length a_buffer_bytes x_keywords_given x_keywords_alive a_keywords_bytes a_keywords_lengths a_keywords_weights a_keywords_lives x_mainSet_count a_mainSet_members x_removalSet_count a_removalSet_members x_superstring_slots x_superstring_built b_superstring_sw a_superstring_starts a_superstring_lengths a_superstring_overlaps x_superstring_area_length a_superstring_area_bytes x_superstring_spare_length a_superstring_spare_bytes x_stream_length a_stream_bytes a_matches_words x_reports_size a_reports_positions a_reports_numbers x_chosen_size a_chosen_positions a_chosen_numbers a_depths a_bestFrom) s.heap.size = Az at hD ⊢
  have hA : ∀ q : Nat, s.heap.size ≤ q → Az q := fun q h => by rw [← hAe]; exact Or.inr h
  clear hAe
  have hSz : va_S Az s.heap s.heap [] := va_S.rf
  obtain ⟨wz, hw1⟩ : ∃ z : va_W, z = (wK cI cZ cJ ad x_work x_rebuilds x_reported x_folding_on x_buffer_length a_buffer_bytes x_keywords_given x_keywords_alive a_keywords_bytes a_keywords_lengths a_keywords_weights a_keywords_lives x_mainSet_count a_mainSet_members x_removalSet_count a_removalSet_members y_x_superstring_slots y_x_superstring_built y_b_superstring_sw y_a_superstring_starts y_a_superstring_lengths y_a_superstring_overlaps y_x_superstring_area_length y_a_superstring_area_bytes y_x_superstring_spare_length y_a_superstring_spare_bytes x_stream_length a_stream_bytes a_matches_words x_reports_size a_reports_positions a_reports_numbers x_chosen_size a_chosen_positions a_chosen_numbers a_depths a_bestFrom) := ⟨_, rfl⟩
  rw [← hw1]
  have hl := lv_entry ([.ref (ad 0), .int (iI pz1)]) (n := 2) (Nat.le_of_ble_eq_true rfl)
  rw [show entryFrame m args 2 = entryFrame m ([.ref (ad 0), .int (iI pz1)] : List Value).toArray 2 from by rw [hav], lg_entry_eq]
  generalize (lg_sl ([.ref (ad 0), .int (iI pz1)]) ++ List.replicate (2 - (lg_sl ([.ref (ad 0), .int (iI pz1)])).length) Slot.unset).toArray = ls at hl ⊢
  have hl : lv_has ls 2 [(0, .ref (ad 0)), (1, .int (iI pz1))] := hl
  unfold s_X7_superstringByte at hs
  refine (?_ : ∀ (Hz : Heap) (lz : List Loc), va_P D vwCl (wK cI cZ cJ ad x_work x_rebuilds x_reported x_folding_on x_buffer_length a_buffer_bytes x_keywords_given x_keywords_alive a_keywords_bytes a_keywords_lengths a_keywords_weights a_keywords_lives x_mainSet_count a_mainSet_members x_removalSet_count a_removalSet_members x_superstring_slots x_superstring_built b_superstring_sw a_superstring_starts a_superstring_lengths a_superstring_overlaps x_superstring_area_length a_superstring_area_bytes x_superstring_spare_length a_superstring_spare_bytes x_stream_length a_stream_bytes a_matches_words x_reports_size a_reports_positions a_reports_numbers x_chosen_size a_chosen_positions a_chosen_numbers a_depths a_bestFrom) Hz → va_D Az (wK cI cZ cJ ad x_work x_rebuilds x_reported x_folding_on x_buffer_length a_buffer_bytes x_keywords_given x_keywords_alive a_keywords_bytes a_keywords_lengths a_keywords_weights a_keywords_lives x_mainSet_count a_mainSet_members x_removalSet_count a_removalSet_members x_superstring_slots x_superstring_built b_superstring_sw a_superstring_starts a_superstring_lengths a_superstring_overlaps x_superstring_area_length a_superstring_area_bytes x_superstring_spare_length a_superstring_spare_bytes x_stream_length a_stream_bytes a_matches_words x_reports_size a_reports_positions a_reports_numbers x_chosen_size a_chosen_positions a_chosen_numbers a_depths a_bestFrom) → va_S Az s.heap Hz lz → W p l e (headSpec wsX7_superstringByte rm_X7_superstringByte).room s m args below meth c Hz lz 0 0 (MQ below (QW D vwCl (some (.int (iI r))) wz Az) args s 0 0 Az) (F0 m 0 ls [])) s.heap [] hP hD hSz
  intro Hz lz hP hD hSz
  refine lv_iload_n hx hb dX7_superstringByte_0 rfl (lv_at hl 1 rfl) ?_
  refine k_if_ge (tgt := 7) hx hb hs dX7_superstringByte_1 (by decide) (fun hs => ?_) (fun hs => ?_)
  · refine k_bipush (n := (-3)) hx hb (by decide) dX7_superstringByte_4 ?_
    cases hs
    exact k_iret_w hx hb hr hlk (by rw [hw1]; exact hP) hSz dX7_superstringByte_6 rfl
  · refine lv_aload_n hx hb dX7_superstringByte_7 rfl (lv_at hl 0 rfl) ?_
    refine va_get (ci := 7) (v := .ref (ad 13)) (C := RX7) (T := TX7) (N := 15) hx hb hts hiX7 hown hK hP 0 rfl rfl 5 (by decide) hf47 (fun _ h9 => h9) rfl dX7_superstringByte_8 ?_
    refine lv_aload_n hx hb dX7_superstringByte_11 rfl (lv_at hl 0 rfl) ?_
    refine va_get (ci := 7) (v := .ref (ad 4)) (C := RX7) (T := TX7) (N := 15) hx hb hts hiX7 hown hK hP 0 rfl rfl 2 (by decide) hf30 (fun _ h9 => h9) rfl dX7_superstringByte_12 ?_
    obtain ⟨vz1, vz2, vz3, vz4, vz5, vz6, vz7, vz8, vz9, vz10, hcz, hs⟩ := bd10_some hs
    refine k_wV (As := [.ref (ad 4)]) (rest := []) (st1 := []) (wc := (wSK cI cZ cJ (ad 13) (ad 1) (ad 14) (ad 15) (ad 16) (ad 17) (ad 18) (ad 19) (ad 20) (ad 4) (ad 5) (ad 6) (ad 7) (ad 8) x_superstring_slots x_superstring_built b_superstring_sw x_folding_on a_superstring_starts a_superstring_lengths a_superstring_overlaps x_superstring_area_length a_superstring_area_bytes x_superstring_spare_length a_superstring_spare_bytes x_keywords_given x_keywords_alive a_keywords_bytes a_keywords_lengths a_keywords_weights a_keywords_lives)) (w1 := (wSK cI cZ cJ (ad 13) (ad 1) (ad 14) (ad 15) (ad 16) (ad 17) (ad 18) (ad 19) (ad 20) (ad 4) (ad 5) (ad 6) (ad 7) (ad 8) vz1 vz2 vz3 x_folding_on vz4 vz5 vz6 vz7 vz8 vz9 vz10 x_keywords_given x_keywords_alive a_keywords_bytes a_keywords_lengths a_keywords_weights a_keywords_lives)) ⟨hx, hb, hml, hown, hts⟩ hK hP hD hSz hA [13, 1, 14, 15, 16, 17, 18, 19, 20, 4, 5, 6, 7, 8] rfl (by decide) (c_X6_build l D cI cZ cJ hcz) (cwV 1 hts gX7_superstringByte_X6_build rfl rfl rfl (by decide +kernel) ⟨Nat.le_of_ble_eq_true rfl, Nat.le_of_ble_eq_true rfl⟩) 13 rfl rfl rfl rfl rfl hl.1 rfl (lv_room (Nat.le_of_ble_eq_true rfl)) dX7_superstringByte_15 ⟨Nat.zero_le _, Nat.zero_le _⟩ rfl (fun Hz lz hP hD hSz => ?_)
    have hP : va_P D vwCl (wK cI cZ cJ ad x_work x_rebuilds x_reported x_folding_on x_buffer_length a_buffer_bytes x_keywords_given x_keywords_alive a_keywords_bytes a_keywords_lengths a_keywords_weights a_keywords_lives x_mainSet_count a_mainSet_members x_removalSet_count a_removalSet_members vz1 vz2 vz3 vz4 vz5 vz6 vz7 vz8 vz9 vz10 x_stream_length a_stream_bytes a_matches_words x_reports_size a_reports_positions a_reports_numbers x_chosen_size a_chosen_positions a_chosen_numbers a_depths a_bestFrom) Hz := hP
    have hD : va_D Az (wK cI cZ cJ ad x_work x_rebuilds x_reported x_folding_on x_buffer_length a_buffer_bytes x_keywords_given x_keywords_alive a_keywords_bytes a_keywords_lengths a_keywords_weights a_keywords_lives x_mainSet_count a_mainSet_members x_removalSet_count a_removalSet_members vz1 vz2 vz3 vz4 vz5 vz6 vz7 vz8 vz9 vz10 x_stream_length a_stream_bytes a_matches_words x_reports_size a_reports_positions a_reports_numbers x_chosen_size a_chosen_positions a_chosen_numbers a_depths a_bestFrom) := hD
    refine lv_aload_n hx hb dX7_superstringByte_18 rfl (lv_at hl 0 rfl) ?_
    refine va_get (ci := 7) (v := .ref (ad 13)) (C := RX7) (T := TX7) (N := 15) hx hb hts hiX7 hown hK hP 0 rfl rfl 5 (by decide) hf47 (fun _ h9 => h9) rfl dX7_superstringByte_19 ?_
    cases vz3 with
    | false =>
      refine va_get (ci := 6) (v := .ref (ad 17)) (C := RX6) (T := TX6) (N := 8) hx hb hts hiX6 hown hK hP 13 rfl rfl 4 (by decide) hf286 (fun _ h9 => h9) rfl dX7_superstringByte_22 ?_
      refine lv_iload_n hx hb dX7_superstringByte_25 rfl (lv_at hl 1 rfl) ?_
      obtain ⟨vz11, hcz, hs⟩ := bd1_some hs
      have hPc : va_P D vwCl [((ad 17), .inr (1, [.ref (ad 18), .int (iI vz7)])), ((ad 18), .inl (cI, 640, .inl (mI vz8)))] Hz := hP.sub [17, 18] rfl
      refine k_rV (As := [.int (iI pz1)]) (rest := []) (st1 := [.int (iI vz11)]) ⟨hx, hb, hml, hown, hts⟩ hK hPc (c_X1_at l D cI cZ cJ (Nat.le_of_ble_eq_true rfl) hcz) (cwV 1 hts gX7_superstringByte_X1_at rfl rfl rfl (by decide +kernel) ⟨Nat.le_of_ble_eq_true rfl, Nat.le_of_ble_eq_true rfl⟩) 0 rfl rfl rfl rfl hl.1 rfl (lv_room (Nat.le_of_ble_eq_true rfl)) dX7_superstringByte_26 ⟨Nat.zero_le _, Nat.zero_le _⟩ rfl ?_
      cases hs
      exact k_iret_w hx hb hr hlk (by rw [hw1]; exact hP) hSz dX7_superstringByte_29 rfl
    | true =>
      refine va_get (ci := 6) (v := .ref (ad 19)) (C := RX6) (T := TX6) (N := 8) hx hb hts hiX6 hown hK hP 13 rfl rfl 4 (by decide) hf286 (fun _ h9 => h9) rfl dX7_superstringByte_22 ?_
      refine lv_iload_n hx hb dX7_superstringByte_25 rfl (lv_at hl 1 rfl) ?_
      obtain ⟨vz12, hcz, hs⟩ := bd1_some hs
      have hPc : va_P D vwCl [((ad 19), .inr (1, [.ref (ad 20), .int (iI vz7)])), ((ad 20), .inl (cI, 640, .inl (mI vz8)))] Hz := hP.sub [19, 20] rfl
      refine k_rV (As := [.int (iI pz1)]) (rest := []) (st1 := [.int (iI vz12)]) ⟨hx, hb, hml, hown, hts⟩ hK hPc (c_X1_at l D cI cZ cJ (Nat.le_of_ble_eq_true rfl) hcz) (cwV 1 hts gX7_superstringByte_X1_at rfl rfl rfl (by decide +kernel) ⟨Nat.le_of_ble_eq_true rfl, Nat.le_of_ble_eq_true rfl⟩) 0 rfl rfl rfl rfl hl.1 rfl (lv_room (Nat.le_of_ble_eq_true rfl)) dX7_superstringByte_26 ⟨Nat.zero_le _, Nat.zero_le _⟩ rfl ?_
      cases hs
      exact k_iret_w hx hb hr hlk (by rw [hw1]; exact hP) hSz dX7_superstringByte_29 rfl
/-! X7_superstringStart -/
set_option maxHeartbeats 4000000 in
set_option maxRecDepth 100000 in
theorem c_X7_superstringStart (l : Launch) (D : va_G) (cI cZ cJ : ClassId) {ad : Nat → Nat} {x_work : Int} {x_rebuilds : Int} {x_reported : Int} {x_folding_on : Int} {x_buffer_length : Int} {a_buffer_bytes : (Int → Int)} {x_keywords_given : Int} {x_keywords_alive : Int} {a_keywords_bytes : (Int → Int)} {a_keywords_lengths : (Int → Int)} {a_keywords_weights : (Int → Int)} {a_keywords_lives : (Int → Int)} {x_mainSet_count : Int} {a_mainSet_members : (Int → Int)} {x_removalSet_count : Int} {a_removalSet_members : (Int → Int)} {x_superstring_slots : Int} {x_superstring_built : Int} {b_superstring_sw : Bool} {a_superstring_starts : (Int → Int)} {a_superstring_lengths : (Int → Int)} {a_superstring_overlaps : (Int → Int)} {x_superstring_area_length : Int} {a_superstring_area_bytes : (Int → Int)} {x_superstring_spare_length : Int} {a_superstring_spare_bytes : (Int → Int)} {x_stream_length : Int} {a_stream_bytes : (Int → Int)} {a_matches_words : (Int → Int)} {x_reports_size : Int} {a_reports_positions : (Int → Int)} {a_reports_numbers : (Int → Int)} {x_chosen_size : Int} {a_chosen_positions : (Int → Int)} {a_chosen_numbers : (Int → Int)} {a_depths : (Int → Int)} {a_bestFrom : (Int → Int)} {pz1 : Int} {r : Int} {y_x_superstring_slots : Int} {y_x_superstring_built : Int} {y_b_superstring_sw : Bool} {y_a_superstring_starts : (Int → Int)} {y_a_superstring_lengths : (Int → Int)} {y_a_superstring_overlaps : (Int → Int)} {y_x_superstring_area_length : Int} {y_a_superstring_area_bytes : (Int → Int)} {y_x_superstring_spare_length : Int} {y_a_superstring_spare_bytes : (Int → Int)} {sz : Nat} (hs : s_X7_superstringStart x_folding_on x_keywords_given a_keywords_bytes a_keywords_lengths a_keywords_lives x_superstring_slots x_superstring_built b_superstring_sw a_superstring_starts a_superstring_lengths a_superstring_overlaps x_superstring_area_length a_superstring_area_bytes x_superstring_spare_length a_superstring_spare_bytes pz1 = some (r, y_x_superstring_slots, y_x_superstring_built, y_b_superstring_sw, y_a_superstring_starts, y_a_superstring_lengths, y_a_superstring_overlaps, y_x_superstring_area_length, y_a_superstring_area_bytes, y_x_superstring_spare_length, y_a_superstring_spare_bytes)) : Met l yX7_superstringStart wsX7_superstringStart rm_X7_superstringStart (PW D vwCl [(cI, .int), (cZ, .boolean), (cJ, .long)] [.ref (ad 0), .int (iI pz1)] (wK cI cZ cJ ad x_work x_rebuilds x_reported x_folding_on x_buffer_length a_buffer_bytes x_keywords_given x_keywords_alive a_keywords_bytes a_keywords_lengths a_keywords_weights a_keywords_lives x_mainSet_count a_mainSet_members x_removalSet_count a_removalSet_members x_superstring_slots x_superstring_built b_superstring_sw a_superstring_starts a_superstring_lengths a_superstring_overlaps x_superstring_area_length a_superstring_area_bytes x_superstring_spare_length a_superstring_spare_bytes x_stream_length a_stream_bytes a_matches_words x_reports_size a_reports_positions a_reports_numbers x_chosen_size a_chosen_positions a_chosen_numbers a_depths a_bestFrom) sz) (QW D vwCl (some (.int (iI r))) (wK cI cZ cJ ad x_work x_rebuilds x_reported x_folding_on x_buffer_length a_buffer_bytes x_keywords_given x_keywords_alive a_keywords_bytes a_keywords_lengths a_keywords_weights a_keywords_lives x_mainSet_count a_mainSet_members x_removalSet_count a_removalSet_members y_x_superstring_slots y_x_superstring_built y_b_superstring_sw y_a_superstring_starts y_a_superstring_lengths y_a_superstring_overlaps y_x_superstring_area_length y_a_superstring_area_bytes y_x_superstring_spare_length y_a_superstring_spare_bytes x_stream_length a_stream_bytes a_matches_words x_reports_size a_reports_positions a_reports_numbers x_chosen_size a_chosen_positions a_chosen_numbers a_depths a_bestFrom) (va_A (wK cI cZ cJ ad x_work x_rebuilds x_reported x_folding_on x_buffer_length a_buffer_bytes x_keywords_given x_keywords_alive a_keywords_bytes a_keywords_lengths a_keywords_weights a_keywords_lives x_mainSet_count a_mainSet_members x_removalSet_count a_removalSet_members x_superstring_slots x_superstring_built b_superstring_sw a_superstring_starts a_superstring_lengths a_superstring_overlaps x_superstring_area_length a_superstring_area_bytes x_superstring_spare_length a_superstring_spare_bytes x_stream_length a_stream_bytes a_matches_words x_reports_size a_reports_positions a_reports_numbers x_chosen_size a_chosen_positions a_chosen_numbers a_depths a_bestFrom) sz)) 0 0 (va_A (wK cI cZ cJ ad x_work x_rebuilds x_reported x_folding_on x_buffer_length a_buffer_bytes x_keywords_given x_keywords_alive a_keywords_bytes a_keywords_lengths a_keywords_weights a_keywords_lives x_mainSet_count a_mainSet_members x_removalSet_count a_removalSet_members x_superstring_slots x_superstring_built b_superstring_sw a_superstring_starts a_superstring_lengths a_superstring_overlaps x_superstring_area_length a_superstring_area_bytes x_superstring_spare_length a_superstring_spare_bytes x_stream_length a_stream_bytes a_matches_words x_reports_size a_reports_positions a_reports_numbers x_chosen_size a_chosen_positions a_chosen_numbers a_depths a_bestFrom) sz) := by
  refine Met.ofW (cc := cX7_superstringStart) (maxL := 3) (ret := (some .int)) (by decide) rfl ?_
  intro p e s m args below meth c s₁ B hml hv
  obtain ⟨hav, hsz, hP, hK, hD0⟩ := hv
  have hx := B.exec
  have hb := B.bytes
  have hr := B.returns
  have hts := atoms_spec (ws := wsX7_superstringStart) B.pre
  have hown : s.vm.findClass RX7 = some m.cls := findClass_of_methodNamed B.named
  have hlk := B.notSynchronized
  have hf30 : (Cond.fieldLink RX7 30 "KeywordMatcher" "keywords" "LKeywordMatcher$Keywords;").before args s = true := hts _ (List.mem_of_getElem? (i := 1) rfl)
  have hiX7 : ∀ w ∈ wsX70, w ∈ wsX7_superstringStart := fun w h => List.mem_cons_of_mem _ (List.mem_append_left _ (List.mem_append_left _ (List.mem_append_left _ (List.mem_append_left _ (List.mem_append_right _ h)))))
  have hf47 : (Cond.fieldLink RX7 47 "KeywordMatcher" "superstring" "LKeywordMatcher$Superstring;").before args s = true := hts _ (List.mem_of_getElem? (i := 2) rfl)
  have hf286 : (Cond.fieldLink RX7 286 "KeywordMatcher$Superstring" "area" "LKeywordMatcher$ByteRow;").before args s = true := hts _ (List.mem_of_getElem? (i := 3) rfl)
  have hiX6 : ∀ w ∈ wsX60, w ∈ wsX7_superstringStart := fun w h => List.mem_cons_of_mem _ (List.mem_append_left _ (List.mem_append_left _ (List.mem_append_left _ (List.mem_append_right _ h))))
  have hf89 : (Cond.fieldLink RX7 89 "KeywordMatcher$ByteRow" "length" "I").before args s = true := hts _ (List.mem_of_getElem? (i := 4) rfl)
  have hiX1 : ∀ w ∈ wsX10, w ∈ wsX7_superstringStart := fun w h => List.mem_cons_of_mem _ (List.mem_append_left _ (List.mem_append_left _ (List.mem_append_right _ h)))
  subst hsz
  have hD := hD0.self (sz := s.heap.size)
  generalize hAe : va_A (wK cI cZ cJ ad x_work x_rebuilds x_reported x_folding_on x_buffer_length a_buffer_bytes x_keywords_given x_keywords_alive a_keywords_bytes a_keywords_lengths a_keywords_weights a_keywords_lives x_mainSet_count a_mainSet_members x_removalSet_count a_removalSet_members x_superstring_slots x_superstring_built b_superstring_sw a_superstring_starts a_superstring_lengths a_superstring_overlaps x_superstring_area_length a_superstring_area_bytes x_superstring_spare_length a_superstring_spare_bytes x_stream_length a_stream_bytes a_matches_words x_reports_size a_reports_positions a_reports_numbers x_chosen_size a_chosen_positions a_chosen_numbers a_depths a_bestFrom) s.heap.size = Az at hD ⊢
  have hA : ∀ q : Nat, s.heap.size ≤ q → Az q := fun q h => by rw [← hAe]; exact Or.inr h
  clear hAe
  have hSz : va_S Az s.heap s.heap [] := va_S.rf
  obtain ⟨wz, hw1⟩ : ∃ z : va_W, z = (wK cI cZ cJ ad x_work x_rebuilds x_reported x_folding_on x_buffer_length a_buffer_bytes x_keywords_given x_keywords_alive a_keywords_bytes a_keywords_lengths a_keywords_weights a_keywords_lives x_mainSet_count a_mainSet_members x_removalSet_count a_removalSet_members y_x_superstring_slots y_x_superstring_built y_b_superstring_sw y_a_superstring_starts y_a_superstring_lengths y_a_superstring_overlaps y_x_superstring_area_length y_a_superstring_area_bytes y_x_superstring_spare_length y_a_superstring_spare_bytes x_stream_length a_stream_bytes a_matches_words x_reports_size a_reports_positions a_reports_numbers x_chosen_size a_chosen_positions a_chosen_numbers a_depths a_bestFrom) := ⟨_, rfl⟩
  rw [← hw1]
  have hl := lv_entry ([.ref (ad 0), .int (iI pz1)]) (n := 3) (Nat.le_of_ble_eq_true rfl)
  rw [show entryFrame m args 3 = entryFrame m ([.ref (ad 0), .int (iI pz1)] : List Value).toArray 3 from by rw [hav], lg_entry_eq]
  generalize (lg_sl ([.ref (ad 0), .int (iI pz1)]) ++ List.replicate (3 - (lg_sl ([.ref (ad 0), .int (iI pz1)])).length) Slot.unset).toArray = ls at hl ⊢
  have hl : lv_has ls 3 [(0, .ref (ad 0)), (1, .int (iI pz1))] := hl
  unfold s_X7_superstringStart at hs
  have Lz27 : ∀ (fu : Nat) (x_superstring_slots : Int) (x_superstring_built : Int) (b_superstring_sw : Bool) (a_superstring_starts : (Int → Int)) (a_superstring_lengths : (Int → Int)) (a_superstring_overlaps : (Int → Int)) (x_superstring_area_length : Int) (a_superstring_area_bytes : (Int → Int)) (x_superstring_spare_length : Int) (a_superstring_spare_bytes : (Int → Int)) (l1 : Int) (l2 : Int), s_X7_superstringStart_27 fu x_folding_on x_keywords_given a_keywords_bytes a_keywords_lengths x_superstring_slots x_superstring_built b_superstring_sw a_superstring_starts a_superstring_lengths a_superstring_overlaps x_superstring_area_length a_superstring_area_bytes x_superstring_spare_length a_superstring_spare_bytes l1 l2 = some (r, y_x_superstring_slots, y_x_superstring_built, y_b_superstring_sw, y_a_superstring_starts, y_a_superstring_lengths, y_a_superstring_overlaps, y_x_superstring_area_length, y_a_superstring_area_bytes, y_x_superstring_spare_length, y_a_superstring_spare_bytes) → ∀ (Hz : Heap) (lz : List Loc), va_P D vwCl (wK cI cZ cJ ad x_work x_rebuilds x_reported x_folding_on x_buffer_length a_buffer_bytes x_keywords_given x_keywords_alive a_keywords_bytes a_keywords_lengths a_keywords_weights a_keywords_lives x_mainSet_count a_mainSet_members x_removalSet_count a_removalSet_members x_superstring_slots x_superstring_built b_superstring_sw a_superstring_starts a_superstring_lengths a_superstring_overlaps x_superstring_area_length a_superstring_area_bytes x_superstring_spare_length a_superstring_spare_bytes x_stream_length a_stream_bytes a_matches_words x_reports_size a_reports_positions a_reports_numbers x_chosen_size a_chosen_positions a_chosen_numbers a_depths a_bestFrom) Hz → va_D Az (wK cI cZ cJ ad x_work x_rebuilds x_reported x_folding_on x_buffer_length a_buffer_bytes x_keywords_given x_keywords_alive a_keywords_bytes a_keywords_lengths a_keywords_weights a_keywords_lives x_mainSet_count a_mainSet_members x_removalSet_count a_removalSet_members x_superstring_slots x_superstring_built b_superstring_sw a_superstring_starts a_superstring_lengths a_superstring_overlaps x_superstring_area_length a_superstring_area_bytes x_superstring_spare_length a_superstring_spare_bytes x_stream_length a_stream_bytes a_matches_words x_reports_size a_reports_positions a_reports_numbers x_chosen_size a_chosen_positions a_chosen_numbers a_depths a_bestFrom) → va_S Az s.heap Hz lz → ∀ ls : Array Slot, lv_has ls 3 [(0, .ref (ad 0)), (1, .int (iI l1)), (2, .int (iI l2))] → W p l e (headSpec wsX7_superstringStart rm_X7_superstringStart).room s m args below meth c Hz lz 0 0 (MQ below (QW D vwCl (some (.int (iI r))) wz Az) args s 0 0 Az) (F0 m 27 ls []) := by
    intro fu
    induction fu with
    | zero => intro x_superstring_slots x_superstring_built b_superstring_sw a_superstring_starts a_superstring_lengths a_superstring_overlaps x_superstring_area_length a_superstring_area_bytes x_superstring_spare_length a_superstring_spare_bytes l1 l2 hs; cases hs
    | succ fu ih =>
      intro x_superstring_slots x_superstring_built b_superstring_sw a_superstring_starts a_superstring_lengths a_superstring_overlaps x_superstring_area_length a_superstring_area_bytes x_superstring_spare_length a_superstring_spare_bytes l1 l2 hs Hz lz hP hD hSz ls hl
      rw [s_X7_superstringStart_27_s] at hs
      refine lv_iload_n hx hb dX7_superstringStart_27 rfl (lv_at hl 2 rfl) ?_
      refine lv_aload_n hx hb dX7_superstringStart_28 rfl (lv_at hl 0 rfl) ?_
      refine va_get (ci := 7) (v := .ref (ad 13)) (C := RX7) (T := TX7) (N := 15) hx hb hts hiX7 hown hK hP 0 rfl rfl 5 (by decide) hf47 (fun _ h9 => h9) rfl dX7_superstringStart_29 ?_
      cases b_superstring_sw with
      | false =>
        refine va_get (ci := 6) (v := .ref (ad 17)) (C := RX6) (T := TX6) (N := 8) hx hb hts hiX6 hown hK hP 13 rfl rfl 4 (by decide) hf286 (fun _ h9 => h9) rfl dX7_superstringStart_32 ?_
        refine va_get (ci := 1) (v := .int (iI x_superstring_area_length)) (C := RX1) (T := TX1) (N := 2) hx hb hts hiX1 hown hK hP 17 rfl rfl 1 (by decide) hf89 (fun _ h9 => h9) rfl dX7_superstringStart_35 ?_
        refine k_icmp_ge (tgt := 68) hx hb hs dX7_superstringStart_38 (by decide) (fun hs => ?_) (fun hs => ?_)
        · refine lv_aload_n hx hb dX7_superstringStart_41 rfl (lv_at hl 0 rfl) ?_
          refine va_get (ci := 7) (v := .ref (ad 4)) (C := RX7) (T := TX7) (N := 15) hx hb hts hiX7 hown hK hP 0 rfl rfl 2 (by decide) hf30 (fun _ h9 => h9) rfl dX7_superstringStart_42 ?_
          refine lv_iload_n hx hb dX7_superstringStart_45 rfl (lv_at hl 1 rfl) ?_
          refine lv_aload_n hx hb dX7_superstringStart_46 rfl (lv_at hl 0 rfl) ?_
          refine va_get (ci := 7) (v := .ref (ad 13)) (C := RX7) (T := TX7) (N := 15) hx hb hts hiX7 hown hK hP 0 rfl rfl 5 (by decide) hf47 (fun _ h9 => h9) rfl dX7_superstringStart_47 ?_
          refine va_get (ci := 6) (v := .ref (ad 17)) (C := RX6) (T := TX6) (N := 8) hx hb hts hiX6 hown hK hP 13 rfl rfl 4 (by decide) hf286 (fun _ h9 => h9) rfl dX7_superstringStart_50 ?_
          refine lv_iload_n hx hb dX7_superstringStart_53 rfl (lv_at hl 2 rfl) ?_
          obtain ⟨vz12, hcz, hs⟩ := bd1_some hs
          have hPc : va_P D vwCl [((ad 4), .inr (3, [.ref (ad 1), .ref (ad 5), .ref (ad 6), .ref (ad 7), .ref (ad 8), .int (iI x_keywords_given), .int (iI x_keywords_alive)])), ((ad 1), .inr (2, [.int (iI x_folding_on)])), ((ad 5), .inl (cI, 1920, .inl (mI a_keywords_bytes))), ((ad 6), .inl (cI, 120, .inl (mI a_keywords_lengths))), ((ad 7), .inl (cI, 120, .inl (mI a_keywords_weights))), ((ad 8), .inl (cZ, 120, .inl (mI a_keywords_lives))), ((ad 17), .inr (1, [.ref (ad 18), .int (iI x_superstring_area_length)])), ((ad 18), .inl (cI, 640, .inl (mI a_superstring_area_bytes)))] Hz := hP.sub [4, 1, 5, 6, 7, 8, 17, 18] rfl
          refine k_rV (As := [.int (iI l1), .ref (ad 17), .int (iI l2)]) (rest := []) (st1 := [.int (iI vz12)]) ⟨hx, hb, hml, hown, hts⟩ hK hPc (c_X3_standsAt l D cI cZ cJ (Nat.le_of_ble_eq_true rfl) hcz) (cwV 3 hts gX7_superstringStart_X3_standsAt rfl rfl rfl (by decide +kernel) ⟨Nat.le_of_ble_eq_true rfl, Nat.le_of_ble_eq_true rfl⟩) 0 rfl rfl rfl rfl hl.1 rfl (lv_room (Nat.le_of_ble_eq_true rfl)) dX7_superstringStart_54 ⟨Nat.zero_le _, Nat.zero_le _⟩ rfl ?_
          refine k_if_eq (tgt := 62) hx hb hs dX7_superstringStart_57 (by decide) (fun hs => ?_) (fun hs => ?_)
          · refine k_iinc (x := l2) (k := 2) (lv' := [(2, .int (iI (l2 + 1))), (0, .ref (ad 0)), (1, .int (iI l1))]) hx hb dX7_superstringStart_62 hl rfl (by decide) rfl (fun ls hl => ?_)
            refine lv_goto (tgt := 27) hx hb dX7_superstringStart_65 (by decide) ?_
            exact ih x_superstring_slots x_superstring_built false a_superstring_starts a_superstring_lengths a_superstring_overlaps x_superstring_area_length a_superstring_area_bytes x_superstring_spare_length a_superstring_spare_bytes l1 (l2 + 1)  hs Hz lz hP hD hSz ls (lv_sub hl [1, 2, 0] rfl)
          · refine lv_iload_n hx hb dX7_superstringStart_60 rfl (lv_at hl 2 rfl) ?_
            cases hs
            exact k_iret_w hx hb hr hlk (by rw [hw1]; exact hP) hSz dX7_superstringStart_61 rfl
        · refine k_iconst (n := (-1)) hx hb dX7_superstringStart_68 ?_
          cases hs
          exact k_iret_w hx hb hr hlk (by rw [hw1]; exact hP) hSz dX7_superstringStart_69 rfl
      | true =>
        refine va_get (ci := 6) (v := .ref (ad 19)) (C := RX6) (T := TX6) (N := 8) hx hb hts hiX6 hown hK hP 13 rfl rfl 4 (by decide) hf286 (fun _ h9 => h9) rfl dX7_superstringStart_32 ?_
        refine va_get (ci := 1) (v := .int (iI x_superstring_area_length)) (C := RX1) (T := TX1) (N := 2) hx hb hts hiX1 hown hK hP 19 rfl rfl 1 (by decide) hf89 (fun _ h9 => h9) rfl dX7_superstringStart_35 ?_
        refine k_icmp_ge (tgt := 68) hx hb hs dX7_superstringStart_38 (by decide) (fun hs => ?_) (fun hs => ?_)
        · refine lv_aload_n hx hb dX7_superstringStart_41 rfl (lv_at hl 0 rfl) ?_
          refine va_get (ci := 7) (v := .ref (ad 4)) (C := RX7) (T := TX7) (N := 15) hx hb hts hiX7 hown hK hP 0 rfl rfl 2 (by decide) hf30 (fun _ h9 => h9) rfl dX7_superstringStart_42 ?_
          refine lv_iload_n hx hb dX7_superstringStart_45 rfl (lv_at hl 1 rfl) ?_
          refine lv_aload_n hx hb dX7_superstringStart_46 rfl (lv_at hl 0 rfl) ?_
          refine va_get (ci := 7) (v := .ref (ad 13)) (C := RX7) (T := TX7) (N := 15) hx hb hts hiX7 hown hK hP 0 rfl rfl 5 (by decide) hf47 (fun _ h9 => h9) rfl dX7_superstringStart_47 ?_
          refine va_get (ci := 6) (v := .ref (ad 19)) (C := RX6) (T := TX6) (N := 8) hx hb hts hiX6 hown hK hP 13 rfl rfl 4 (by decide) hf286 (fun _ h9 => h9) rfl dX7_superstringStart_50 ?_
          refine lv_iload_n hx hb dX7_superstringStart_53 rfl (lv_at hl 2 rfl) ?_
          obtain ⟨vz13, hcz, hs⟩ := bd1_some hs
          have hPc : va_P D vwCl [((ad 4), .inr (3, [.ref (ad 1), .ref (ad 5), .ref (ad 6), .ref (ad 7), .ref (ad 8), .int (iI x_keywords_given), .int (iI x_keywords_alive)])), ((ad 1), .inr (2, [.int (iI x_folding_on)])), ((ad 5), .inl (cI, 1920, .inl (mI a_keywords_bytes))), ((ad 6), .inl (cI, 120, .inl (mI a_keywords_lengths))), ((ad 7), .inl (cI, 120, .inl (mI a_keywords_weights))), ((ad 8), .inl (cZ, 120, .inl (mI a_keywords_lives))), ((ad 19), .inr (1, [.ref (ad 20), .int (iI x_superstring_area_length)])), ((ad 20), .inl (cI, 640, .inl (mI a_superstring_area_bytes)))] Hz := hP.sub [4, 1, 5, 6, 7, 8, 19, 20] rfl
          refine k_rV (As := [.int (iI l1), .ref (ad 19), .int (iI l2)]) (rest := []) (st1 := [.int (iI vz13)]) ⟨hx, hb, hml, hown, hts⟩ hK hPc (c_X3_standsAt l D cI cZ cJ (Nat.le_of_ble_eq_true rfl) hcz) (cwV 3 hts gX7_superstringStart_X3_standsAt rfl rfl rfl (by decide +kernel) ⟨Nat.le_of_ble_eq_true rfl, Nat.le_of_ble_eq_true rfl⟩) 0 rfl rfl rfl rfl hl.1 rfl (lv_room (Nat.le_of_ble_eq_true rfl)) dX7_superstringStart_54 ⟨Nat.zero_le _, Nat.zero_le _⟩ rfl ?_
          refine k_if_eq (tgt := 62) hx hb hs dX7_superstringStart_57 (by decide) (fun hs => ?_) (fun hs => ?_)
          · refine k_iinc (x := l2) (k := 2) (lv' := [(2, .int (iI (l2 + 1))), (0, .ref (ad 0)), (1, .int (iI l1))]) hx hb dX7_superstringStart_62 hl rfl (by decide) rfl (fun ls hl => ?_)
            refine lv_goto (tgt := 27) hx hb dX7_superstringStart_65 (by decide) ?_
            exact ih x_superstring_slots x_superstring_built true a_superstring_starts a_superstring_lengths a_superstring_overlaps x_superstring_area_length a_superstring_area_bytes x_superstring_spare_length a_superstring_spare_bytes l1 (l2 + 1)  hs Hz lz hP hD hSz ls (lv_sub hl [1, 2, 0] rfl)
          · refine lv_iload_n hx hb dX7_superstringStart_60 rfl (lv_at hl 2 rfl) ?_
            cases hs
            exact k_iret_w hx hb hr hlk (by rw [hw1]; exact hP) hSz dX7_superstringStart_61 rfl
        · refine k_iconst (n := (-1)) hx hb dX7_superstringStart_68 ?_
          cases hs
          exact k_iret_w hx hb hr hlk (by rw [hw1]; exact hP) hSz dX7_superstringStart_69 rfl
  refine (?_ : ∀ (Hz : Heap) (lz : List Loc), va_P D vwCl (wK cI cZ cJ ad x_work x_rebuilds x_reported x_folding_on x_buffer_length a_buffer_bytes x_keywords_given x_keywords_alive a_keywords_bytes a_keywords_lengths a_keywords_weights a_keywords_lives x_mainSet_count a_mainSet_members x_removalSet_count a_removalSet_members x_superstring_slots x_superstring_built b_superstring_sw a_superstring_starts a_superstring_lengths a_superstring_overlaps x_superstring_area_length a_superstring_area_bytes x_superstring_spare_length a_superstring_spare_bytes x_stream_length a_stream_bytes a_matches_words x_reports_size a_reports_positions a_reports_numbers x_chosen_size a_chosen_positions a_chosen_numbers a_depths a_bestFrom) Hz → va_D Az (wK cI cZ cJ ad x_work x_rebuilds x_reported x_folding_on x_buffer_length a_buffer_bytes x_keywords_given x_keywords_alive a_keywords_bytes a_keywords_lengths a_keywords_weights a_keywords_lives x_mainSet_count a_mainSet_members x_removalSet_count a_removalSet_members x_superstring_slots x_superstring_built b_superstring_sw a_superstring_starts a_superstring_lengths a_superstring_overlaps x_superstring_area_length a_superstring_area_bytes x_superstring_spare_length a_superstring_spare_bytes x_stream_length a_stream_bytes a_matches_words x_reports_size a_reports_positions a_reports_numbers x_chosen_size a_chosen_positions a_chosen_numbers a_depths a_bestFrom) → va_S Az s.heap Hz lz → W p l e (headSpec wsX7_superstringStart rm_X7_superstringStart).room s m args below meth c Hz lz 0 0 (MQ below (QW D vwCl (some (.int (iI r))) wz Az) args s 0 0 Az) (F0 m 0 ls [])) s.heap [] hP hD hSz
  intro Hz lz hP hD hSz
  refine lv_aload_n hx hb dX7_superstringStart_0 rfl (lv_at hl 0 rfl) ?_
  refine va_get (ci := 7) (v := .ref (ad 4)) (C := RX7) (T := TX7) (N := 15) hx hb hts hiX7 hown hK hP 0 rfl rfl 2 (by decide) hf30 (fun _ h9 => h9) rfl dX7_superstringStart_1 ?_
  refine lv_iload_n hx hb dX7_superstringStart_4 rfl (lv_at hl 1 rfl) ?_
  obtain ⟨vz1, hcz, hs⟩ := bd1_some hs
  have hPc : va_P D vwCl [((ad 4), .inr (3, [.ref (ad 1), .ref (ad 5), .ref (ad 6), .ref (ad 7), .ref (ad 8), .int (iI x_keywords_given), .int (iI x_keywords_alive)])), ((ad 1), .inr (2, [.int (iI x_folding_on)])), ((ad 5), .inl (cI, 1920, .inl (mI a_keywords_bytes))), ((ad 6), .inl (cI, 120, .inl (mI a_keywords_lengths))), ((ad 7), .inl (cI, 120, .inl (mI a_keywords_weights))), ((ad 8), .inl (cZ, 120, .inl (mI a_keywords_lives)))] Hz := hP.sub [4, 1, 5, 6, 7, 8] rfl
  refine k_rV (As := [.int (iI pz1)]) (rest := []) (st1 := [.int (iI vz1)]) ⟨hx, hb, hml, hown, hts⟩ hK hPc (c_X3_isAlive l D cI cZ cJ hcz) (cwV 1 hts gX7_superstringStart_X3_isAlive rfl rfl rfl (by decide +kernel) ⟨Nat.le_of_ble_eq_true rfl, Nat.le_of_ble_eq_true rfl⟩) 0 rfl rfl rfl rfl hl.1 rfl (lv_room (Nat.le_of_ble_eq_true rfl)) dX7_superstringStart_5 ⟨Nat.zero_le _, Nat.zero_le _⟩ rfl ?_
  refine k_if_ne (tgt := 14) hx hb hs dX7_superstringStart_8 (by decide) (fun hs => ?_) (fun hs => ?_)
  · refine k_bipush (n := (-2)) hx hb (by decide) dX7_superstringStart_11 ?_
    cases hs
    exact k_iret_w hx hb hr hlk (by rw [hw1]; exact hP) hSz dX7_superstringStart_13 rfl
  · refine lv_aload_n hx hb dX7_superstringStart_14 rfl (lv_at hl 0 rfl) ?_
    refine va_get (ci := 7) (v := .ref (ad 13)) (C := RX7) (T := TX7) (N := 15) hx hb hts hiX7 hown hK hP 0 rfl rfl 5 (by decide) hf47 (fun _ h9 => h9) rfl dX7_superstringStart_15 ?_
    refine lv_aload_n hx hb dX7_superstringStart_18 rfl (lv_at hl 0 rfl) ?_
    refine va_get (ci := 7) (v := .ref (ad 4)) (C := RX7) (T := TX7) (N := 15) hx hb hts hiX7 hown hK hP 0 rfl rfl 2 (by decide) hf30 (fun _ h9 => h9) rfl dX7_superstringStart_19 ?_
    obtain ⟨vz2, vz3, vz4, vz5, vz6, vz7, vz8, vz9, vz10, vz11, hcz, hs⟩ := bd10_some hs
    refine k_wV (As := [.ref (ad 4)]) (rest := []) (st1 := []) (wc := (wSK cI cZ cJ (ad 13) (ad 1) (ad 14) (ad 15) (ad 16) (ad 17) (ad 18) (ad 19) (ad 20) (ad 4) (ad 5) (ad 6) (ad 7) (ad 8) x_superstring_slots x_superstring_built b_superstring_sw x_folding_on a_superstring_starts a_superstring_lengths a_superstring_overlaps x_superstring_area_length a_superstring_area_bytes x_superstring_spare_length a_superstring_spare_bytes x_keywords_given x_keywords_alive a_keywords_bytes a_keywords_lengths a_keywords_weights a_keywords_lives)) (w1 := (wSK cI cZ cJ (ad 13) (ad 1) (ad 14) (ad 15) (ad 16) (ad 17) (ad 18) (ad 19) (ad 20) (ad 4) (ad 5) (ad 6) (ad 7) (ad 8) vz2 vz3 vz4 x_folding_on vz5 vz6 vz7 vz8 vz9 vz10 vz11 x_keywords_given x_keywords_alive a_keywords_bytes a_keywords_lengths a_keywords_weights a_keywords_lives)) ⟨hx, hb, hml, hown, hts⟩ hK hP hD hSz hA [13, 1, 14, 15, 16, 17, 18, 19, 20, 4, 5, 6, 7, 8] rfl (by decide) (c_X6_build l D cI cZ cJ hcz) (cwV 1 hts gX7_superstringStart_X6_build rfl rfl rfl (by decide +kernel) ⟨Nat.le_of_ble_eq_true rfl, Nat.le_of_ble_eq_true rfl⟩) 13 rfl rfl rfl rfl rfl hl.1 rfl (lv_room (Nat.le_of_ble_eq_true rfl)) dX7_superstringStart_22 ⟨Nat.zero_le _, Nat.zero_le _⟩ rfl (fun Hz lz hP hD hSz => ?_)
    have hP : va_P D vwCl (wK cI cZ cJ ad x_work x_rebuilds x_reported x_folding_on x_buffer_length a_buffer_bytes x_keywords_given x_keywords_alive a_keywords_bytes a_keywords_lengths a_keywords_weights a_keywords_lives x_mainSet_count a_mainSet_members x_removalSet_count a_removalSet_members vz2 vz3 vz4 vz5 vz6 vz7 vz8 vz9 vz10 vz11 x_stream_length a_stream_bytes a_matches_words x_reports_size a_reports_positions a_reports_numbers x_chosen_size a_chosen_positions a_chosen_numbers a_depths a_bestFrom) Hz := hP
    have hD : va_D Az (wK cI cZ cJ ad x_work x_rebuilds x_reported x_folding_on x_buffer_length a_buffer_bytes x_keywords_given x_keywords_alive a_keywords_bytes a_keywords_lengths a_keywords_weights a_keywords_lives x_mainSet_count a_mainSet_members x_removalSet_count a_removalSet_members vz2 vz3 vz4 vz5 vz6 vz7 vz8 vz9 vz10 vz11 x_stream_length a_stream_bytes a_matches_words x_reports_size a_reports_positions a_reports_numbers x_chosen_size a_chosen_positions a_chosen_numbers a_depths a_bestFrom) := hD
    refine k_iconst (n := 0) hx hb dX7_superstringStart_25 ?_
    refine lv_istore_n (lv' := [(2, .int (iI 0)), (0, .ref (ad 0)), (1, .int (iI pz1))]) hx hb dX7_superstringStart_26 rfl hl (by decide) rfl (fun ls hl => ?_)
    exact Lz27 FU vz2 vz3 vz4 vz5 vz6 vz7 vz8 vz9 vz10 vz11 pz1 0 hs Hz lz hP hD hSz ls (lv_sub hl [1, 2, 0] rfl)
/-! X7_worthFrom -/
set_option maxHeartbeats 4000000 in
set_option maxRecDepth 100000 in
theorem c_X7_worthFrom (l : Launch) (D : va_G) (cI cZ cJ : ClassId) {ad : Nat → Nat} {x_work : Int} {x_rebuilds : Int} {x_reported : Int} {x_folding_on : Int} {x_buffer_length : Int} {a_buffer_bytes : (Int → Int)} {x_keywords_given : Int} {x_keywords_alive : Int} {a_keywords_bytes : (Int → Int)} {a_keywords_lengths : (Int → Int)} {a_keywords_weights : (Int → Int)} {a_keywords_lives : (Int → Int)} {x_mainSet_count : Int} {a_mainSet_members : (Int → Int)} {x_removalSet_count : Int} {a_removalSet_members : (Int → Int)} {x_superstring_slots : Int} {x_superstring_built : Int} {b_superstring_sw : Bool} {a_superstring_starts : (Int → Int)} {a_superstring_lengths : (Int → Int)} {a_superstring_overlaps : (Int → Int)} {x_superstring_area_length : Int} {a_superstring_area_bytes : (Int → Int)} {x_superstring_spare_length : Int} {a_superstring_spare_bytes : (Int → Int)} {x_stream_length : Int} {a_stream_bytes : (Int → Int)} {a_matches_words : (Int → Int)} {x_reports_size : Int} {a_reports_positions : (Int → Int)} {a_reports_numbers : (Int → Int)} {x_chosen_size : Int} {a_chosen_positions : (Int → Int)} {a_chosen_numbers : (Int → Int)} {a_depths : (Int → Int)} {a_bestFrom : (Int → Int)} {pz1 : Int} {pz2 : Int} {r : Int} (hs : s_X7_worthFrom x_keywords_given a_keywords_weights x_stream_length a_matches_words a_bestFrom pz1 pz2 = some r) : Met l yX7_worthFrom wsX7_worthFrom rm_X7_worthFrom (PR D vwCl [(cI, .int), (cZ, .boolean), (cJ, .long)] [.ref (ad 0), .int (iI pz1), .int (iI pz2)] (wK cI cZ cJ ad x_work x_rebuilds x_reported x_folding_on x_buffer_length a_buffer_bytes x_keywords_given x_keywords_alive a_keywords_bytes a_keywords_lengths a_keywords_weights a_keywords_lives x_mainSet_count a_mainSet_members x_removalSet_count a_removalSet_members x_superstring_slots x_superstring_built b_superstring_sw a_superstring_starts a_superstring_lengths a_superstring_overlaps x_superstring_area_length a_superstring_area_bytes x_superstring_spare_length a_superstring_spare_bytes x_stream_length a_stream_bytes a_matches_words x_reports_size a_reports_positions a_reports_numbers x_chosen_size a_chosen_positions a_chosen_numbers a_depths a_bestFrom)) (QR (some (.long (iL r)))) 0 0 (fun _ => False) := by
  refine Met.ofW (cc := cX7_worthFrom) (maxL := 4) (ret := (some .long)) (by decide) rfl ?_
  intro p e s m args below meth c s₁ B hml hv
  obtain ⟨hav, hP, hK⟩ := hv
  have hx := B.exec
  have hb := B.bytes
  have hr := B.returns
  have hts := atoms_spec (ws := wsX7_worthFrom) B.pre
  have hown : s.vm.findClass RX7 = some m.cls := findClass_of_methodNamed B.named
  have hlk := B.notSynchronized
  have hf57 : (Cond.fieldLink RX7 57 "KeywordMatcher" "matches" "LKeywordMatcher$MatchTable;").before args s = true := hts _ (List.mem_of_getElem? (i := 1) rfl)
  have hiX7 : ∀ w ∈ wsX70, w ∈ wsX7_worthFrom := fun w h => List.mem_cons_of_mem _ (List.mem_append_left _ (List.mem_append_left _ (List.mem_append_left _ (List.mem_append_right _ h))))
  have hc308 : (Cond.constantLong RX7 308 (-1)).before args s = true := hts _ (List.mem_of_getElem? (i := 4) rfl)
  have hf51 : (Cond.fieldLink RX7 51 "KeywordMatcher" "stream" "LKeywordMatcher$ByteRow;").before args s = true := hts _ (List.mem_of_getElem? (i := 2) rfl)
  have hf89 : (Cond.fieldLink RX7 89 "KeywordMatcher$ByteRow" "length" "I").before args s = true := hts _ (List.mem_of_getElem? (i := 3) rfl)
  have hiX1 : ∀ w ∈ wsX10, w ∈ wsX7_worthFrom := fun w h => List.mem_cons_of_mem _ (List.mem_append_left _ (List.mem_append_left _ (List.mem_append_right _ h)))
  have hc310 : (Cond.constantLong RX7 310 (67108864)).before args s = true := hts _ (List.mem_of_getElem? (i := 5) rfl)
  have hf30 : (Cond.fieldLink RX7 30 "KeywordMatcher" "keywords" "LKeywordMatcher$Keywords;").before args s = true := hts _ (List.mem_of_getElem? (i := 6) rfl)
  have hc312 : (Cond.constantLong RX7 312 (1024)).before args s = true := hts _ (List.mem_of_getElem? (i := 7) rfl)
  have hf75 : (Cond.fieldLink RX7 75 "KeywordMatcher" "bestFrom" "[J").before args s = true := hts _ (List.mem_of_getElem? (i := 8) rfl)
  have hl := lv_entry ([.ref (ad 0), .int (iI pz1), .int (iI pz2)]) (n := 4) (Nat.le_of_ble_eq_true rfl)
  rw [show entryFrame m args 4 = entryFrame m ([.ref (ad 0), .int (iI pz1), .int (iI pz2)] : List Value).toArray 4 from by rw [hav], lg_entry_eq]
  generalize (lg_sl ([.ref (ad 0), .int (iI pz1), .int (iI pz2)]) ++ List.replicate (4 - (lg_sl ([.ref (ad 0), .int (iI pz1), .int (iI pz2)])).length) Slot.unset).toArray = ls at hl ⊢
  have hl : lv_has ls 4 [(0, .ref (ad 0)), (1, .int (iI pz1)), (2, .int (iI pz2))] := hl
  unfold s_X7_worthFrom at hs
  refine lv_aload_n hx hb dX7_worthFrom_0 rfl (lv_at hl 0 rfl) ?_
  refine va_get (ci := 7) (v := .ref (ad 23)) (C := RX7) (T := TX7) (N := 15) hx hb hts hiX7 hown hK hP 0 rfl rfl 7 (by decide) hf57 (fun _ h9 => h9) rfl dX7_worthFrom_1 ?_
  refine lv_iload_n hx hb dX7_worthFrom_4 rfl (lv_at hl 1 rfl) ?_
  refine lv_iload_n hx hb dX7_worthFrom_5 rfl (lv_at hl 2 rfl) ?_
  obtain ⟨vz1, hcz, hs⟩ := bd1_some hs
  have hPc : va_P D vwCl [((ad 23), .inr (5, [.ref (ad 24)])), ((ad 24), .inl (cJ, 1200, .inr (.inl (mL a_matches_words))))] s.heap := hP.sub [23, 24] rfl
  refine k_rV (As := [.int (iI pz1), .int (iI pz2)]) (rest := []) (st1 := [.int (iI vz1)]) ⟨hx, hb, hml, hown, hts⟩ hK hPc (c_X5_at l D cI cZ cJ hcz) (cwV 2 hts gX7_worthFrom_X5_at rfl rfl rfl (by decide +kernel) ⟨Nat.le_of_ble_eq_true rfl, Nat.le_of_ble_eq_true rfl⟩) 0 rfl rfl rfl rfl hl.1 rfl (lv_room (Nat.le_of_ble_eq_true rfl)) dX7_worthFrom_6 ⟨Nat.zero_le _, Nat.zero_le _⟩ rfl ?_
  refine lv_istore_n (lv' := [(3, .int (iI vz1)), (0, .ref (ad 0)), (1, .int (iI pz1)), (2, .int (iI pz2))]) hx hb dX7_worthFrom_9 rfl hl (by decide) rfl (fun ls hl => ?_)
  refine lv_iload_n hx hb dX7_worthFrom_10 rfl (lv_at hl 0 rfl) ?_
  refine k_iconst (n := (-1)) hx hb dX7_worthFrom_11 ?_
  refine k_icmp_eq (tgt := 28) hx hb hs dX7_worthFrom_12 (by decide) (fun hs => ?_) (fun hs => ?_)
  · refine k_ldc2 (n := (-1)) hx hb (by decide) hown hc308 dX7_worthFrom_28 ?_
    cases hs
    exact k_lret_r hx hb hr hlk rfl dX7_worthFrom_31 rfl
  · refine lv_iload_n hx hb dX7_worthFrom_15 rfl (lv_at hl 2 rfl) ?_
    refine lv_iload_n hx hb dX7_worthFrom_16 rfl (lv_at hl 3 rfl) ?_
    refine k_iadd hx hb dX7_worthFrom_17 ?_
    refine lv_aload_n hx hb dX7_worthFrom_18 rfl (lv_at hl 1 rfl) ?_
    refine va_get (ci := 7) (v := .ref (ad 21)) (C := RX7) (T := TX7) (N := 15) hx hb hts hiX7 hown hK hP 0 rfl rfl 6 (by decide) hf51 (fun _ h9 => h9) rfl dX7_worthFrom_19 ?_
    refine va_get (ci := 1) (v := .int (iI x_stream_length)) (C := RX1) (T := TX1) (N := 2) hx hb hts hiX1 hown hK hP 21 rfl rfl 1 (by decide) hf89 (fun _ h9 => h9) rfl dX7_worthFrom_22 ?_
    refine k_icmp_le (tgt := 32) hx hb hs dX7_worthFrom_25 (by decide) (fun hs => ?_) (fun hs => ?_)
    · refine k_ldc2 (n := (-1)) hx hb (by decide) hown hc308 dX7_worthFrom_28 ?_
      cases hs
      exact k_lret_r hx hb hr hlk rfl dX7_worthFrom_31 rfl
    · refine lv_iload_n hx hb dX7_worthFrom_32 rfl (lv_at hl 3 rfl) ?_
      refine k_i2l hx hb hs dX7_worthFrom_33 (fun hs => ?_)
      refine k_ldc2 (n := 67108864) hx hb (by decide) hown hc310 dX7_worthFrom_34 ?_
      refine k_lmul hx hb dX7_worthFrom_37 ?_
      refine lv_aload_n hx hb dX7_worthFrom_38 rfl (lv_at hl 1 rfl) ?_
      refine va_get (ci := 7) (v := .ref (ad 4)) (C := RX7) (T := TX7) (N := 15) hx hb hts hiX7 hown hK hP 0 rfl rfl 2 (by decide) hf30 (fun _ h9 => h9) rfl dX7_worthFrom_39 ?_
      refine lv_iload_n hx hb dX7_worthFrom_42 rfl (lv_at hl 0 rfl) ?_
      obtain ⟨vz2, hcz, hs⟩ := bd1_some hs
      have hPc : va_P D vwCl [((ad 4), .inr (3, [.ref (ad 1), .ref (ad 5), .ref (ad 6), .ref (ad 7), .ref (ad 8), .int (iI x_keywords_given), .int (iI x_keywords_alive)])), ((ad 1), .inr (2, [.int (iI x_folding_on)])), ((ad 5), .inl (cI, 1920, .inl (mI a_keywords_bytes))), ((ad 6), .inl (cI, 120, .inl (mI a_keywords_lengths))), ((ad 7), .inl (cI, 120, .inl (mI a_keywords_weights))), ((ad 8), .inl (cZ, 120, .inl (mI a_keywords_lives)))] s.heap := hP.sub [4, 1, 5, 6, 7, 8] rfl
      refine k_rV (As := [.int (iI vz1)]) (rest := [.long (iL (pz2 * 67108864))]) (st1 := [.int (iI vz2), .long (iL (pz2 * 67108864))]) ⟨hx, hb, hml, hown, hts⟩ hK hPc (c_X3_weightOf l D cI cZ cJ hcz) (cwV 1 hts gX7_worthFrom_X3_weightOf rfl rfl rfl (by decide +kernel) ⟨Nat.le_of_ble_eq_true rfl, Nat.le_of_ble_eq_true rfl⟩) 0 rfl rfl rfl rfl hl.1 rfl (lv_room (Nat.le_of_ble_eq_true rfl)) dX7_worthFrom_43 ⟨Nat.zero_le _, Nat.zero_le _⟩ rfl ?_
      refine k_i2l hx hb hs dX7_worthFrom_46 (fun hs => ?_)
      refine k_ldc2 (n := 1024) hx hb (by decide) hown hc312 dX7_worthFrom_47 ?_
      refine k_lmul hx hb dX7_worthFrom_50 ?_
      refine k_ladd hx hb dX7_worthFrom_51 ?_
      refine k_lconst (v := 1) hx hb (by decide) dX7_worthFrom_52 ?_
      refine k_lsub hx hb dX7_worthFrom_53 ?_
      refine lv_aload_n hx hb dX7_worthFrom_54 rfl (lv_at hl 1 rfl) ?_
      refine va_get (ci := 7) (v := .ref (ad 32)) (C := RX7) (T := TX7) (N := 15) hx hb hts hiX7 hown hK hP 0 rfl rfl 11 (by decide) hf75 (fun _ h9 => h9) rfl dX7_worthFrom_55 ?_
      refine lv_iload_n hx hb dX7_worthFrom_58 rfl (lv_at hl 2 rfl) ?_
      refine lv_iload_n hx hb dX7_worthFrom_59 rfl (lv_at hl 3 rfl) ?_
      refine k_iadd hx hb dX7_worthFrom_60 ?_
      refine k_lald hx hb hK hP 32 2 rfl rfl (Nat.le_of_ble_eq_true rfl) hs dX7_worthFrom_61 (fun vz3 hs => ?_)
      refine k_ladd hx hb dX7_worthFrom_62 ?_
      cases hs
      exact k_lret_r hx hb hr hlk rfl dX7_worthFrom_63 rfl
/-! X7_measureCovers -/
set_option maxHeartbeats 4000000 in
set_option maxRecDepth 100000 in
theorem c_X7_measureCovers (l : Launch) (D : va_G) (cI cZ cJ : ClassId) {ad : Nat → Nat} {x_work : Int} {x_rebuilds : Int} {x_reported : Int} {x_folding_on : Int} {x_buffer_length : Int} {a_buffer_bytes : (Int → Int)} {x_keywords_given : Int} {x_keywords_alive : Int} {a_keywords_bytes : (Int → Int)} {a_keywords_lengths : (Int → Int)} {a_keywords_weights : (Int → Int)} {a_keywords_lives : (Int → Int)} {x_mainSet_count : Int} {a_mainSet_members : (Int → Int)} {x_removalSet_count : Int} {a_removalSet_members : (Int → Int)} {x_superstring_slots : Int} {x_superstring_built : Int} {b_superstring_sw : Bool} {a_superstring_starts : (Int → Int)} {a_superstring_lengths : (Int → Int)} {a_superstring_overlaps : (Int → Int)} {x_superstring_area_length : Int} {a_superstring_area_bytes : (Int → Int)} {x_superstring_spare_length : Int} {a_superstring_spare_bytes : (Int → Int)} {x_stream_length : Int} {a_stream_bytes : (Int → Int)} {a_matches_words : (Int → Int)} {x_reports_size : Int} {a_reports_positions : (Int → Int)} {a_reports_numbers : (Int → Int)} {x_chosen_size : Int} {a_chosen_positions : (Int → Int)} {a_chosen_numbers : (Int → Int)} {a_depths : (Int → Int)} {a_bestFrom : (Int → Int)} {y_a_bestFrom : (Int → Int)} {sz : Nat} (hs : s_X7_measureCovers x_keywords_given a_keywords_weights x_stream_length a_matches_words a_bestFrom = some y_a_bestFrom) : Met l yX7_measureCovers wsX7_measureCovers rm_X7_measureCovers (PW D vwCl [(cI, .int), (cZ, .boolean), (cJ, .long)] [.ref (ad 0)] (wK cI cZ cJ ad x_work x_rebuilds x_reported x_folding_on x_buffer_length a_buffer_bytes x_keywords_given x_keywords_alive a_keywords_bytes a_keywords_lengths a_keywords_weights a_keywords_lives x_mainSet_count a_mainSet_members x_removalSet_count a_removalSet_members x_superstring_slots x_superstring_built b_superstring_sw a_superstring_starts a_superstring_lengths a_superstring_overlaps x_superstring_area_length a_superstring_area_bytes x_superstring_spare_length a_superstring_spare_bytes x_stream_length a_stream_bytes a_matches_words x_reports_size a_reports_positions a_reports_numbers x_chosen_size a_chosen_positions a_chosen_numbers a_depths a_bestFrom) sz) (QW D vwCl none (wK cI cZ cJ ad x_work x_rebuilds x_reported x_folding_on x_buffer_length a_buffer_bytes x_keywords_given x_keywords_alive a_keywords_bytes a_keywords_lengths a_keywords_weights a_keywords_lives x_mainSet_count a_mainSet_members x_removalSet_count a_removalSet_members x_superstring_slots x_superstring_built b_superstring_sw a_superstring_starts a_superstring_lengths a_superstring_overlaps x_superstring_area_length a_superstring_area_bytes x_superstring_spare_length a_superstring_spare_bytes x_stream_length a_stream_bytes a_matches_words x_reports_size a_reports_positions a_reports_numbers x_chosen_size a_chosen_positions a_chosen_numbers a_depths y_a_bestFrom) (va_A (wK cI cZ cJ ad x_work x_rebuilds x_reported x_folding_on x_buffer_length a_buffer_bytes x_keywords_given x_keywords_alive a_keywords_bytes a_keywords_lengths a_keywords_weights a_keywords_lives x_mainSet_count a_mainSet_members x_removalSet_count a_removalSet_members x_superstring_slots x_superstring_built b_superstring_sw a_superstring_starts a_superstring_lengths a_superstring_overlaps x_superstring_area_length a_superstring_area_bytes x_superstring_spare_length a_superstring_spare_bytes x_stream_length a_stream_bytes a_matches_words x_reports_size a_reports_positions a_reports_numbers x_chosen_size a_chosen_positions a_chosen_numbers a_depths a_bestFrom) sz)) 0 0 (va_A (wK cI cZ cJ ad x_work x_rebuilds x_reported x_folding_on x_buffer_length a_buffer_bytes x_keywords_given x_keywords_alive a_keywords_bytes a_keywords_lengths a_keywords_weights a_keywords_lives x_mainSet_count a_mainSet_members x_removalSet_count a_removalSet_members x_superstring_slots x_superstring_built b_superstring_sw a_superstring_starts a_superstring_lengths a_superstring_overlaps x_superstring_area_length a_superstring_area_bytes x_superstring_spare_length a_superstring_spare_bytes x_stream_length a_stream_bytes a_matches_words x_reports_size a_reports_positions a_reports_numbers x_chosen_size a_chosen_positions a_chosen_numbers a_depths a_bestFrom) sz) := by
  refine Met.ofW (cc := cX7_measureCovers) (maxL := 4) (ret := none) (by decide) rfl ?_
  intro p e s m args below meth c s₁ B hml hv
  obtain ⟨hav, hsz, hP, hK, hD0⟩ := hv
  have hx := B.exec
  have hb := B.bytes
  have hr := B.returns
  have hts := atoms_spec (ws := wsX7_measureCovers) B.pre
  have hown : s.vm.findClass RX7 = some m.cls := findClass_of_methodNamed B.named
  have hlk := B.notSynchronized
  have hf75 : (Cond.fieldLink RX7 75 "KeywordMatcher" "bestFrom" "[J").before args s = true := hts _ (List.mem_of_getElem? (i := 1) rfl)
  have hiX7 : ∀ w ∈ wsX70, w ∈ wsX7_measureCovers := fun w h => List.mem_cons_of_mem _ (List.mem_append_left _ (List.mem_append_left _ (List.mem_append_left _ (List.mem_append_right _ h))))
  have hf51 : (Cond.fieldLink RX7 51 "KeywordMatcher" "stream" "LKeywordMatcher$ByteRow;").before args s = true := hts _ (List.mem_of_getElem? (i := 2) rfl)
  have hf89 : (Cond.fieldLink RX7 89 "KeywordMatcher$ByteRow" "length" "I").before args s = true := hts _ (List.mem_of_getElem? (i := 3) rfl)
  have hiX1 : ∀ w ∈ wsX10, w ∈ wsX7_measureCovers := fun w h => List.mem_cons_of_mem _ (List.mem_append_left _ (List.mem_append_left _ (List.mem_append_right _ h)))
  have hf57 : (Cond.fieldLink RX7 57 "KeywordMatcher" "matches" "LKeywordMatcher$MatchTable;").before args s = true := hts _ (List.mem_of_getElem? (i := 4) rfl)
  have hm305 : (Cond.methodLink RX7 305 Lib.MathLoose.max_long.x).before args s = true := hts _ (List.mem_of_getElem? (i := 5) rfl)
  have hst_maxl : (Cond.static Lib.MathLoose.max_long.x).before args s = true := hts _ (List.mem_of_getElem? (i := 6) rfl)
  have hin_Math : (Cond.initialized "java/lang/Math").before args s = true := hts _ (List.mem_of_getElem? (i := 7) rfl)
  have hcd_maxl : (Cond.code Lib.MathLoose.max_long.x Lib.MathLoose.max_long.code 4 (some .long)).before args s = true := hts _ (List.mem_of_getElem? (i := 8) rfl)
  subst hsz
  have hD := hD0.self (sz := s.heap.size)
  generalize hAe : va_A (wK cI cZ cJ ad x_work x_rebuilds x_reported x_folding_on x_buffer_length a_buffer_bytes x_keywords_given x_keywords_alive a_keywords_bytes a_keywords_lengths a_keywords_weights a_keywords_lives x_mainSet_count a_mainSet_members x_removalSet_count a_removalSet_members x_superstring_slots x_superstring_built b_superstring_sw a_superstring_starts a_superstring_lengths a_superstring_overlaps x_superstring_area_length a_superstring_area_bytes x_superstring_spare_length a_superstring_spare_bytes x_stream_length a_stream_bytes a_matches_words x_reports_size a_reports_positions a_reports_numbers x_chosen_size a_chosen_positions a_chosen_numbers a_depths a_bestFrom) s.heap.size = Az at hD ⊢
  have hA : ∀ q : Nat, s.heap.size ≤ q → Az q := fun q h => by rw [← hAe]; exact Or.inr h
  clear hAe
  have hSz : va_S Az s.heap s.heap [] := va_S.rf
  obtain ⟨wz, hw1⟩ : ∃ z : va_W, z = (wK cI cZ cJ ad x_work x_rebuilds x_reported x_folding_on x_buffer_length a_buffer_bytes x_keywords_given x_keywords_alive a_keywords_bytes a_keywords_lengths a_keywords_weights a_keywords_lives x_mainSet_count a_mainSet_members x_removalSet_count a_removalSet_members x_superstring_slots x_superstring_built b_superstring_sw a_superstring_starts a_superstring_lengths a_superstring_overlaps x_superstring_area_length a_superstring_area_bytes x_superstring_spare_length a_superstring_spare_bytes x_stream_length a_stream_bytes a_matches_words x_reports_size a_reports_positions a_reports_numbers x_chosen_size a_chosen_positions a_chosen_numbers a_depths y_a_bestFrom) := ⟨_, rfl⟩
  rw [← hw1]
  have hl := lv_entry ([.ref (ad 0)]) (n := 4) (Nat.le_of_ble_eq_true rfl)
  rw [show entryFrame m args 4 = entryFrame m ([.ref (ad 0)] : List Value).toArray 4 from by rw [hav], lg_entry_eq]
  generalize (lg_sl ([.ref (ad 0)]) ++ List.replicate (4 - (lg_sl ([.ref (ad 0)])).length) Slot.unset).toArray = ls at hl ⊢
  have hl : lv_has ls 4 [(0, .ref (ad 0))] := hl
  unfold s_X7_measureCovers at hs
  have Lz52 : ∀ (fu : Nat) (a_bestFrom : (Int → Int)) (l1 : Int) (l2 : Int) (l3 : Int) (y0 : (Int → Int)), s_X7_measureCovers_52 fu x_keywords_given a_keywords_weights x_stream_length a_matches_words a_bestFrom l1 l2 l3 = some y0 → ∀ (Hz : Heap) (lz : List Loc), va_P D vwCl (wK cI cZ cJ ad x_work x_rebuilds x_reported x_folding_on x_buffer_length a_buffer_bytes x_keywords_given x_keywords_alive a_keywords_bytes a_keywords_lengths a_keywords_weights a_keywords_lives x_mainSet_count a_mainSet_members x_removalSet_count a_removalSet_members x_superstring_slots x_superstring_built b_superstring_sw a_superstring_starts a_superstring_lengths a_superstring_overlaps x_superstring_area_length a_superstring_area_bytes x_superstring_spare_length a_superstring_spare_bytes x_stream_length a_stream_bytes a_matches_words x_reports_size a_reports_positions a_reports_numbers x_chosen_size a_chosen_positions a_chosen_numbers a_depths a_bestFrom) Hz → va_D Az (wK cI cZ cJ ad x_work x_rebuilds x_reported x_folding_on x_buffer_length a_buffer_bytes x_keywords_given x_keywords_alive a_keywords_bytes a_keywords_lengths a_keywords_weights a_keywords_lives x_mainSet_count a_mainSet_members x_removalSet_count a_removalSet_members x_superstring_slots x_superstring_built b_superstring_sw a_superstring_starts a_superstring_lengths a_superstring_overlaps x_superstring_area_length a_superstring_area_bytes x_superstring_spare_length a_superstring_spare_bytes x_stream_length a_stream_bytes a_matches_words x_reports_size a_reports_positions a_reports_numbers x_chosen_size a_chosen_positions a_chosen_numbers a_depths a_bestFrom) → va_S Az s.heap Hz lz → ∀ ls : Array Slot, lv_has ls 4 [(0, .ref (ad 0)), (1, .int (iI l1)), (2, .int (iI l2)), (3, .int (iI l3))] → (∀ (Hz : Heap) (lz : List Loc), va_P D vwCl (wK cI cZ cJ ad x_work x_rebuilds x_reported x_folding_on x_buffer_length a_buffer_bytes x_keywords_given x_keywords_alive a_keywords_bytes a_keywords_lengths a_keywords_weights a_keywords_lives x_mainSet_count a_mainSet_members x_removalSet_count a_removalSet_members x_superstring_slots x_superstring_built b_superstring_sw a_superstring_starts a_superstring_lengths a_superstring_overlaps x_superstring_area_length a_superstring_area_bytes x_superstring_spare_length a_superstring_spare_bytes x_stream_length a_stream_bytes a_matches_words x_reports_size a_reports_positions a_reports_numbers x_chosen_size a_chosen_positions a_chosen_numbers a_depths y0) Hz → va_D Az (wK cI cZ cJ ad x_work x_rebuilds x_reported x_folding_on x_buffer_length a_buffer_bytes x_keywords_given x_keywords_alive a_keywords_bytes a_keywords_lengths a_keywords_weights a_keywords_lives x_mainSet_count a_mainSet_members x_removalSet_count a_removalSet_members x_superstring_slots x_superstring_built b_superstring_sw a_superstring_starts a_superstring_lengths a_superstring_overlaps x_superstring_area_length a_superstring_area_bytes x_superstring_spare_length a_superstring_spare_bytes x_stream_length a_stream_bytes a_matches_words x_reports_size a_reports_positions a_reports_numbers x_chosen_size a_chosen_positions a_chosen_numbers a_depths y0) → va_S Az s.heap Hz lz → ∀ ls : Array Slot, lv_has ls 4 [(0, .ref (ad 0)), (1, .int (iI l1))] → W p l e (headSpec wsX7_measureCovers rm_X7_measureCovers).room s m args below meth c Hz lz 0 0 (MQ below (QW D vwCl none wz Az) args s 0 0 Az) (F0 m 84 ls [])) → W p l e (headSpec wsX7_measureCovers rm_X7_measureCovers).room s m args below meth c Hz lz 0 0 (MQ below (QW D vwCl none wz Az) args s 0 0 Az) (F0 m 52 ls []) := by
    intro fu
    induction fu with
    | zero => intro a_bestFrom l1 l2 l3 y0 hs; cases hs
    | succ fu ih =>
      intro a_bestFrom l1 l2 l3 y0 hs Hz lz hP hD hSz ls hl kx
      rw [s_X7_measureCovers_52_s] at hs
      refine lv_iload_n hx hb dX7_measureCovers_52 rfl (lv_at hl 3 rfl) ?_
      refine lv_iload_n hx hb dX7_measureCovers_53 rfl (lv_at hl 2 rfl) ?_
      refine k_icmp_gt (tgt := 84) hx hb hs dX7_measureCovers_54 (by decide) (fun hs => ?_) (fun hs => ?_)
      · cases hs
        exact kx Hz lz hP hD hSz ls (lv_sub hl [0, 1] rfl)
      · refine lv_aload_n hx hb dX7_measureCovers_57 rfl (lv_at hl 0 rfl) ?_
        refine va_get (ci := 7) (v := .ref (ad 32)) (C := RX7) (T := TX7) (N := 15) hx hb hts hiX7 hown hK hP 0 rfl rfl 11 (by decide) hf75 (fun _ h9 => h9) rfl dX7_measureCovers_58 ?_
        refine lv_iload_n hx hb dX7_measureCovers_61 rfl (lv_at hl 1 rfl) ?_
        refine lv_aload_n hx hb dX7_measureCovers_62 rfl (lv_at hl 0 rfl) ?_
        refine va_get (ci := 7) (v := .ref (ad 32)) (C := RX7) (T := TX7) (N := 15) hx hb hts hiX7 hown hK hP 0 rfl rfl 11 (by decide) hf75 (fun _ h9 => h9) rfl dX7_measureCovers_63 ?_
        refine lv_iload_n hx hb dX7_measureCovers_66 rfl (lv_at hl 1 rfl) ?_
        refine k_lald hx hb hK hP 32 2 rfl rfl (Nat.le_of_ble_eq_true rfl) hs dX7_measureCovers_67 (fun vz3 hs => ?_)
        refine lv_aload_n hx hb dX7_measureCovers_68 rfl (lv_at hl 0 rfl) ?_
        refine lv_iload_n hx hb dX7_measureCovers_69 rfl (lv_at hl 1 rfl) ?_
        refine lv_iload_n hx hb dX7_measureCovers_70 rfl (lv_at hl 3 rfl) ?_
        obtain ⟨vz4, hcz, hs⟩ := bd1_some hs
        refine k_rV (As := [.int (iI l1), .int (iI l3)]) (rest := [.long (iL vz3), .int (iI l1), .ref (ad 32)]) (st1 := [.long (iL vz4), .long (iL vz3), .int (iI l1), .ref (ad 32)]) ⟨hx, hb, hml, hown, hts⟩ hK hP (c_X7_worthFrom l D cI cZ cJ hcz) (cwV 2 hts gX7_measureCovers_X7_worthFrom rfl rfl rfl (by decide +kernel) ⟨Nat.le_of_ble_eq_true rfl, Nat.le_of_ble_eq_true rfl⟩) 0 rfl rfl rfl rfl hl.1 rfl (lv_room (Nat.le_of_ble_eq_true rfl)) dX7_measureCovers_71 ⟨Nat.zero_le _, Nat.zero_le _⟩ rfl ?_
        refine k_mmaxL hx hb (hml.trans hl.1.symm) hown hm305 hst_maxl hin_Math hcd_maxl (Nat.le_of_ble_eq_true rfl) (Nat.le_of_ble_eq_true rfl) (Nat.zero_le _) (Nat.zero_le _) hs dX7_measureCovers_74 (fun hs => ?_)
        refine k_last hx hb hK hP hD hSz 32 2 rfl rfl (Nat.le_of_ble_eq_true rfl) hs dX7_measureCovers_77 (fun Hz lz hP hD hSz hs => ?_)
        have hP : va_P D vwCl (wK cI cZ cJ ad x_work x_rebuilds x_reported x_folding_on x_buffer_length a_buffer_bytes x_keywords_given x_keywords_alive a_keywords_bytes a_keywords_lengths a_keywords_weights a_keywords_lives x_mainSet_count a_mainSet_members x_removalSet_count a_removalSet_members x_superstring_slots x_superstring_built b_superstring_sw a_superstring_starts a_superstring_lengths a_superstring_overlaps x_superstring_area_length a_superstring_area_bytes x_superstring_spare_length a_superstring_spare_bytes x_stream_length a_stream_bytes a_matches_words x_reports_size a_reports_positions a_reports_numbers x_chosen_size a_chosen_positions a_chosen_numbers a_depths (upA a_bestFrom l1 (lMax vz3 vz4))) Hz := hP
        have hD : va_D Az (wK cI cZ cJ ad x_work x_rebuilds x_reported x_folding_on x_buffer_length a_buffer_bytes x_keywords_given x_keywords_alive a_keywords_bytes a_keywords_lengths a_keywords_weights a_keywords_lives x_mainSet_count a_mainSet_members x_removalSet_count a_removalSet_members x_superstring_slots x_superstring_built b_superstring_sw a_superstring_starts a_superstring_lengths a_superstring_overlaps x_superstring_area_length a_superstring_area_bytes x_superstring_spare_length a_superstring_spare_bytes x_stream_length a_stream_bytes a_matches_words x_reports_size a_reports_positions a_reports_numbers x_chosen_size a_chosen_positions a_chosen_numbers a_depths (upA a_bestFrom l1 (lMax vz3 vz4))) := hD
        refine k_iinc (x := l3) (k := 3) (lv' := [(3, .int (iI (l3 + 1))), (0, .ref (ad 0)), (1, .int (iI l1)), (2, .int (iI l2))]) hx hb dX7_measureCovers_78 hl rfl (by decide) rfl (fun ls hl => ?_)
        refine lv_goto (tgt := 52) hx hb dX7_measureCovers_81 (by decide) ?_
        exact ih (upA a_bestFrom l1 (lMax vz3 vz4)) l1 l2 (l3 + 1) y0 hs Hz lz hP hD hSz ls (lv_sub hl [1, 2, 3, 0] rfl) kx
  have Lz23 : ∀ (fu : Nat) (a_bestFrom : (Int → Int)) (l1 : Int) (y0 : (Int → Int)), s_X7_measureCovers_23 fu x_keywords_given a_keywords_weights x_stream_length a_matches_words a_bestFrom l1 = some y0 → ∀ (Hz : Heap) (lz : List Loc), va_P D vwCl (wK cI cZ cJ ad x_work x_rebuilds x_reported x_folding_on x_buffer_length a_buffer_bytes x_keywords_given x_keywords_alive a_keywords_bytes a_keywords_lengths a_keywords_weights a_keywords_lives x_mainSet_count a_mainSet_members x_removalSet_count a_removalSet_members x_superstring_slots x_superstring_built b_superstring_sw a_superstring_starts a_superstring_lengths a_superstring_overlaps x_superstring_area_length a_superstring_area_bytes x_superstring_spare_length a_superstring_spare_bytes x_stream_length a_stream_bytes a_matches_words x_reports_size a_reports_positions a_reports_numbers x_chosen_size a_chosen_positions a_chosen_numbers a_depths a_bestFrom) Hz → va_D Az (wK cI cZ cJ ad x_work x_rebuilds x_reported x_folding_on x_buffer_length a_buffer_bytes x_keywords_given x_keywords_alive a_keywords_bytes a_keywords_lengths a_keywords_weights a_keywords_lives x_mainSet_count a_mainSet_members x_removalSet_count a_removalSet_members x_superstring_slots x_superstring_built b_superstring_sw a_superstring_starts a_superstring_lengths a_superstring_overlaps x_superstring_area_length a_superstring_area_bytes x_superstring_spare_length a_superstring_spare_bytes x_stream_length a_stream_bytes a_matches_words x_reports_size a_reports_positions a_reports_numbers x_chosen_size a_chosen_positions a_chosen_numbers a_depths a_bestFrom) → va_S Az s.heap Hz lz → ∀ ls : Array Slot, lv_has ls 4 [(0, .ref (ad 0)), (1, .int (iI l1))] → (∀ (Hz : Heap) (lz : List Loc), va_P D vwCl (wK cI cZ cJ ad x_work x_rebuilds x_reported x_folding_on x_buffer_length a_buffer_bytes x_keywords_given x_keywords_alive a_keywords_bytes a_keywords_lengths a_keywords_weights a_keywords_lives x_mainSet_count a_mainSet_members x_removalSet_count a_removalSet_members x_superstring_slots x_superstring_built b_superstring_sw a_superstring_starts a_superstring_lengths a_superstring_overlaps x_superstring_area_length a_superstring_area_bytes x_superstring_spare_length a_superstring_spare_bytes x_stream_length a_stream_bytes a_matches_words x_reports_size a_reports_positions a_reports_numbers x_chosen_size a_chosen_positions a_chosen_numbers a_depths y0) Hz → va_D Az (wK cI cZ cJ ad x_work x_rebuilds x_reported x_folding_on x_buffer_length a_buffer_bytes x_keywords_given x_keywords_alive a_keywords_bytes a_keywords_lengths a_keywords_weights a_keywords_lives x_mainSet_count a_mainSet_members x_removalSet_count a_removalSet_members x_superstring_slots x_superstring_built b_superstring_sw a_superstring_starts a_superstring_lengths a_superstring_overlaps x_superstring_area_length a_superstring_area_bytes x_superstring_spare_length a_superstring_spare_bytes x_stream_length a_stream_bytes a_matches_words x_reports_size a_reports_positions a_reports_numbers x_chosen_size a_chosen_positions a_chosen_numbers a_depths y0) → va_S Az s.heap Hz lz → ∀ ls : Array Slot, lv_has ls 4 [] → W p l e (headSpec wsX7_measureCovers rm_X7_measureCovers).room s m args below meth c Hz lz 0 0 (MQ below (QW D vwCl none wz Az) args s 0 0 Az) (F0 m 90 ls [])) → W p l e (headSpec wsX7_measureCovers rm_X7_measureCovers).room s m args below meth c Hz lz 0 0 (MQ below (QW D vwCl none wz Az) args s 0 0 Az) (F0 m 23 ls []) := by
    intro fu
    induction fu with
    | zero => intro a_bestFrom l1 y0 hs; cases hs
    | succ fu ih =>
      intro a_bestFrom l1 y0 hs Hz lz hP hD hSz ls hl kx
      rw [s_X7_measureCovers_23_s] at hs
      refine lv_iload_n hx hb dX7_measureCovers_23 rfl (lv_at hl 1 rfl) ?_
      refine k_if_lt (tgt := 90) hx hb hs dX7_measureCovers_24 (by decide) (fun hs => ?_) (fun hs => ?_)
      · cases hs
        exact kx Hz lz hP hD hSz ls (lv_sub hl [] rfl)
      · refine lv_aload_n hx hb dX7_measureCovers_27 rfl (lv_at hl 0 rfl) ?_
        refine va_get (ci := 7) (v := .ref (ad 32)) (C := RX7) (T := TX7) (N := 15) hx hb hts hiX7 hown hK hP 0 rfl rfl 11 (by decide) hf75 (fun _ h9 => h9) rfl dX7_measureCovers_28 ?_
        refine lv_iload_n hx hb dX7_measureCovers_31 rfl (lv_at hl 1 rfl) ?_
        refine lv_aload_n hx hb dX7_measureCovers_32 rfl (lv_at hl 0 rfl) ?_
        refine va_get (ci := 7) (v := .ref (ad 32)) (C := RX7) (T := TX7) (N := 15) hx hb hts hiX7 hown hK hP 0 rfl rfl 11 (by decide) hf75 (fun _ h9 => h9) rfl dX7_measureCovers_33 ?_
        refine lv_iload_n hx hb dX7_measureCovers_36 rfl (lv_at hl 1 rfl) ?_
        refine k_iconst (n := 1) hx hb dX7_measureCovers_37 ?_
        refine k_iadd hx hb dX7_measureCovers_38 ?_
        refine k_lald hx hb hK hP 32 2 rfl rfl (Nat.le_of_ble_eq_true rfl) hs dX7_measureCovers_39 (fun vz1 hs => ?_)
        refine k_last hx hb hK hP hD hSz 32 2 rfl rfl (Nat.le_of_ble_eq_true rfl) hs dX7_measureCovers_40 (fun Hz lz hP hD hSz hs => ?_)
        have hP : va_P D vwCl (wK cI cZ cJ ad x_work x_rebuilds x_reported x_folding_on x_buffer_length a_buffer_bytes x_keywords_given x_keywords_alive a_keywords_bytes a_keywords_lengths a_keywords_weights a_keywords_lives x_mainSet_count a_mainSet_members x_removalSet_count a_removalSet_members x_superstring_slots x_superstring_built b_superstring_sw a_superstring_starts a_superstring_lengths a_superstring_overlaps x_superstring_area_length a_superstring_area_bytes x_superstring_spare_length a_superstring_spare_bytes x_stream_length a_stream_bytes a_matches_words x_reports_size a_reports_positions a_reports_numbers x_chosen_size a_chosen_positions a_chosen_numbers a_depths (upA a_bestFrom l1 vz1)) Hz := hP
        have hD : va_D Az (wK cI cZ cJ ad x_work x_rebuilds x_reported x_folding_on x_buffer_length a_buffer_bytes x_keywords_given x_keywords_alive a_keywords_bytes a_keywords_lengths a_keywords_weights a_keywords_lives x_mainSet_count a_mainSet_members x_removalSet_count a_removalSet_members x_superstring_slots x_superstring_built b_superstring_sw a_superstring_starts a_superstring_lengths a_superstring_overlaps x_superstring_area_length a_superstring_area_bytes x_superstring_spare_length a_superstring_spare_bytes x_stream_length a_stream_bytes a_matches_words x_reports_size a_reports_positions a_reports_numbers x_chosen_size a_chosen_positions a_chosen_numbers a_depths (upA a_bestFrom l1 vz1)) := hD
        refine lv_aload_n hx hb dX7_measureCovers_41 rfl (lv_at hl 0 rfl) ?_
        refine va_get (ci := 7) (v := .ref (ad 23)) (C := RX7) (T := TX7) (N := 15) hx hb hts hiX7 hown hK hP 0 rfl rfl 7 (by decide) hf57 (fun _ h9 => h9) rfl dX7_measureCovers_42 ?_
        refine lv_iload_n hx hb dX7_measureCovers_45 rfl (lv_at hl 1 rfl) ?_
        obtain ⟨vz2, hcz, hs⟩ := bd1_some hs
        have hPc : va_P D vwCl [((ad 23), .inr (5, [.ref (ad 24)])), ((ad 24), .inl (cJ, 1200, .inr (.inl (mL a_matches_words))))] Hz := hP.sub [23, 24] rfl
        refine k_rV (As := [.int (iI l1)]) (rest := []) (st1 := [.int (iI vz2)]) ⟨hx, hb, hml, hown, hts⟩ hK hPc (c_X5_longestFrom l D cI cZ cJ hcz) (cwV 1 hts gX7_measureCovers_X5_longestFrom rfl rfl rfl (by decide +kernel) ⟨Nat.le_of_ble_eq_true rfl, Nat.le_of_ble_eq_true rfl⟩) 0 rfl rfl rfl rfl hl.1 rfl (lv_room (Nat.le_of_ble_eq_true rfl)) dX7_measureCovers_46 ⟨Nat.zero_le _, Nat.zero_le _⟩ rfl ?_
        refine lv_istore_n (lv' := [(2, .int (iI vz2)), (0, .ref (ad 0)), (1, .int (iI l1))]) hx hb dX7_measureCovers_49 rfl hl (by decide) rfl (fun ls hl => ?_)
        refine k_iconst (n := 1) hx hb dX7_measureCovers_50 ?_
        refine lv_istore_n (lv' := [(3, .int (iI 1)), (2, .int (iI vz2)), (0, .ref (ad 0)), (1, .int (iI l1))]) hx hb dX7_measureCovers_51 rfl hl (by decide) rfl (fun ls hl => ?_)
        obtain ⟨ez5, hq, hs⟩ := bd1_some hs
        refine Lz52 FU (upA a_bestFrom l1 vz1) l1 vz2 1 ez5 hq Hz lz hP hD hSz ls (lv_sub hl [2, 3, 1, 0] rfl) ?_
        intro Hz lz hP hD hSz ls hl
        refine k_iinc (x := l1) (k := 1) (lv' := [(1, .int (iI (l1 + (-1)))), (0, .ref (ad 0))]) hx hb dX7_measureCovers_84 hl rfl (by decide) rfl (fun ls hl => ?_)
        refine lv_goto (tgt := 23) hx hb dX7_measureCovers_87 (by decide) ?_
        exact ih ez5 (l1 + (-1)) y0 hs Hz lz hP hD hSz ls (lv_sub hl [1, 0] rfl) kx
  refine (?_ : ∀ (Hz : Heap) (lz : List Loc), va_P D vwCl (wK cI cZ cJ ad x_work x_rebuilds x_reported x_folding_on x_buffer_length a_buffer_bytes x_keywords_given x_keywords_alive a_keywords_bytes a_keywords_lengths a_keywords_weights a_keywords_lives x_mainSet_count a_mainSet_members x_removalSet_count a_removalSet_members x_superstring_slots x_superstring_built b_superstring_sw a_superstring_starts a_superstring_lengths a_superstring_overlaps x_superstring_area_length a_superstring_area_bytes x_superstring_spare_length a_superstring_spare_bytes x_stream_length a_stream_bytes a_matches_words x_reports_size a_reports_positions a_reports_numbers x_chosen_size a_chosen_positions a_chosen_numbers a_depths a_bestFrom) Hz → va_D Az (wK cI cZ cJ ad x_work x_rebuilds x_reported x_folding_on x_buffer_length a_buffer_bytes x_keywords_given x_keywords_alive a_keywords_bytes a_keywords_lengths a_keywords_weights a_keywords_lives x_mainSet_count a_mainSet_members x_removalSet_count a_removalSet_members x_superstring_slots x_superstring_built b_superstring_sw a_superstring_starts a_superstring_lengths a_superstring_overlaps x_superstring_area_length a_superstring_area_bytes x_superstring_spare_length a_superstring_spare_bytes x_stream_length a_stream_bytes a_matches_words x_reports_size a_reports_positions a_reports_numbers x_chosen_size a_chosen_positions a_chosen_numbers a_depths a_bestFrom) → va_S Az s.heap Hz lz → W p l e (headSpec wsX7_measureCovers rm_X7_measureCovers).room s m args below meth c Hz lz 0 0 (MQ below (QW D vwCl none wz Az) args s 0 0 Az) (F0 m 0 ls [])) s.heap [] hP hD hSz
  intro Hz lz hP hD hSz
  refine lv_aload_n hx hb dX7_measureCovers_0 rfl (lv_at hl 0 rfl) ?_
  refine va_get (ci := 7) (v := .ref (ad 32)) (C := RX7) (T := TX7) (N := 15) hx hb hts hiX7 hown hK hP 0 rfl rfl 11 (by decide) hf75 (fun _ h9 => h9) rfl dX7_measureCovers_1 ?_
  refine lv_aload_n hx hb dX7_measureCovers_4 rfl (lv_at hl 0 rfl) ?_
  refine va_get (ci := 7) (v := .ref (ad 21)) (C := RX7) (T := TX7) (N := 15) hx hb hts hiX7 hown hK hP 0 rfl rfl 6 (by decide) hf51 (fun _ h9 => h9) rfl dX7_measureCovers_5 ?_
  refine va_get (ci := 1) (v := .int (iI x_stream_length)) (C := RX1) (T := TX1) (N := 2) hx hb hts hiX1 hown hK hP 21 rfl rfl 1 (by decide) hf89 (fun _ h9 => h9) rfl dX7_measureCovers_8 ?_
  refine k_lconst (v := 0) hx hb (by decide) dX7_measureCovers_11 ?_
  refine k_last hx hb hK hP hD hSz 32 2 rfl rfl (Nat.le_of_ble_eq_true rfl) hs dX7_measureCovers_12 (fun Hz lz hP hD hSz hs => ?_)
  have hP : va_P D vwCl (wK cI cZ cJ ad x_work x_rebuilds x_reported x_folding_on x_buffer_length a_buffer_bytes x_keywords_given x_keywords_alive a_keywords_bytes a_keywords_lengths a_keywords_weights a_keywords_lives x_mainSet_count a_mainSet_members x_removalSet_count a_removalSet_members x_superstring_slots x_superstring_built b_superstring_sw a_superstring_starts a_superstring_lengths a_superstring_overlaps x_superstring_area_length a_superstring_area_bytes x_superstring_spare_length a_superstring_spare_bytes x_stream_length a_stream_bytes a_matches_words x_reports_size a_reports_positions a_reports_numbers x_chosen_size a_chosen_positions a_chosen_numbers a_depths (upA a_bestFrom x_stream_length 0)) Hz := hP
  have hD : va_D Az (wK cI cZ cJ ad x_work x_rebuilds x_reported x_folding_on x_buffer_length a_buffer_bytes x_keywords_given x_keywords_alive a_keywords_bytes a_keywords_lengths a_keywords_weights a_keywords_lives x_mainSet_count a_mainSet_members x_removalSet_count a_removalSet_members x_superstring_slots x_superstring_built b_superstring_sw a_superstring_starts a_superstring_lengths a_superstring_overlaps x_superstring_area_length a_superstring_area_bytes x_superstring_spare_length a_superstring_spare_bytes x_stream_length a_stream_bytes a_matches_words x_reports_size a_reports_positions a_reports_numbers x_chosen_size a_chosen_positions a_chosen_numbers a_depths (upA a_bestFrom x_stream_length 0)) := hD
  refine lv_aload_n hx hb dX7_measureCovers_13 rfl (lv_at hl 0 rfl) ?_
  refine va_get (ci := 7) (v := .ref (ad 21)) (C := RX7) (T := TX7) (N := 15) hx hb hts hiX7 hown hK hP 0 rfl rfl 6 (by decide) hf51 (fun _ h9 => h9) rfl dX7_measureCovers_14 ?_
  refine va_get (ci := 1) (v := .int (iI x_stream_length)) (C := RX1) (T := TX1) (N := 2) hx hb hts hiX1 hown hK hP 21 rfl rfl 1 (by decide) hf89 (fun _ h9 => h9) rfl dX7_measureCovers_17 ?_
  refine k_iconst (n := 1) hx hb dX7_measureCovers_20 ?_
  refine k_isub hx hb dX7_measureCovers_21 ?_
  refine lv_istore_n (lv' := [(1, .int (iI (x_stream_length - 1))), (0, .ref (ad 0))]) hx hb dX7_measureCovers_22 rfl hl (by decide) rfl (fun ls hl => ?_)
  obtain ⟨ez6, hq, hs⟩ := bd1_some hs
  refine Lz23 FU (upA a_bestFrom x_stream_length 0) (x_stream_length - 1) ez6 hq Hz lz hP hD hSz ls (lv_sub hl [1, 0] rfl) ?_
  intro Hz lz hP hD hSz ls hl
  cases hs
  exact k_vret_w hx hb hr hlk (by rw [hw1]; exact hP) hSz dX7_measureCovers_90 rfl
/-! X7_lowestBestFrom -/
set_option maxHeartbeats 4000000 in
set_option maxRecDepth 100000 in
theorem c_X7_lowestBestFrom (l : Launch) (D : va_G) (cI cZ cJ : ClassId) {ad : Nat → Nat} {x_work : Int} {x_rebuilds : Int} {x_reported : Int} {x_folding_on : Int} {x_buffer_length : Int} {a_buffer_bytes : (Int → Int)} {x_keywords_given : Int} {x_keywords_alive : Int} {a_keywords_bytes : (Int → Int)} {a_keywords_lengths : (Int → Int)} {a_keywords_weights : (Int → Int)} {a_keywords_lives : (Int → Int)} {x_mainSet_count : Int} {a_mainSet_members : (Int → Int)} {x_removalSet_count : Int} {a_removalSet_members : (Int → Int)} {x_superstring_slots : Int} {x_superstring_built : Int} {b_superstring_sw : Bool} {a_superstring_starts : (Int → Int)} {a_superstring_lengths : (Int → Int)} {a_superstring_overlaps : (Int → Int)} {x_superstring_area_length : Int} {a_superstring_area_bytes : (Int → Int)} {x_superstring_spare_length : Int} {a_superstring_spare_bytes : (Int → Int)} {x_stream_length : Int} {a_stream_bytes : (Int → Int)} {a_matches_words : (Int → Int)} {x_reports_size : Int} {a_reports_positions : (Int → Int)} {a_reports_numbers : (Int → Int)} {x_chosen_size : Int} {a_chosen_positions : (Int → Int)} {a_chosen_numbers : (Int → Int)} {a_depths : (Int → Int)} {a_bestFrom : (Int → Int)} {pz1 : Int} {r : Int} (hs : s_X7_lowestBestFrom x_keywords_given a_keywords_weights x_stream_length a_matches_words a_bestFrom pz1 = some r) : Met l yX7_lowestBestFrom wsX7_lowestBestFrom rm_X7_lowestBestFrom (PR D vwCl [(cI, .int), (cZ, .boolean), (cJ, .long)] [.ref (ad 0), .int (iI pz1)] (wK cI cZ cJ ad x_work x_rebuilds x_reported x_folding_on x_buffer_length a_buffer_bytes x_keywords_given x_keywords_alive a_keywords_bytes a_keywords_lengths a_keywords_weights a_keywords_lives x_mainSet_count a_mainSet_members x_removalSet_count a_removalSet_members x_superstring_slots x_superstring_built b_superstring_sw a_superstring_starts a_superstring_lengths a_superstring_overlaps x_superstring_area_length a_superstring_area_bytes x_superstring_spare_length a_superstring_spare_bytes x_stream_length a_stream_bytes a_matches_words x_reports_size a_reports_positions a_reports_numbers x_chosen_size a_chosen_positions a_chosen_numbers a_depths a_bestFrom)) (QR (some (.int (iI r)))) 0 0 (fun _ => False) := by
  refine Met.ofW (cc := cX7_lowestBestFrom) (maxL := 6) (ret := (some .int)) (by decide) rfl ?_
  intro p e s m args below meth c s₁ B hml hv
  obtain ⟨hav, hP, hK⟩ := hv
  have hx := B.exec
  have hb := B.bytes
  have hr := B.returns
  have hts := atoms_spec (ws := wsX7_lowestBestFrom) B.pre
  have hown : s.vm.findClass RX7 = some m.cls := findClass_of_methodNamed B.named
  have hlk := B.notSynchronized
  have hf57 : (Cond.fieldLink RX7 57 "KeywordMatcher" "matches" "LKeywordMatcher$MatchTable;").before args s = true := hts _ (List.mem_of_getElem? (i := 1) rfl)
  have hiX7 : ∀ w ∈ wsX70, w ∈ wsX7_lowestBestFrom := fun w h => List.mem_cons_of_mem _ (List.mem_append_left _ (List.mem_append_left _ (List.mem_append_left _ (List.mem_append_right _ h))))
  have hf75 : (Cond.fieldLink RX7 75 "KeywordMatcher" "bestFrom" "[J").before args s = true := hts _ (List.mem_of_getElem? (i := 2) rfl)
  have hm197 : (Cond.methodLink RX7 197 Lib.Math.min.name).before args s = true := hts _ (List.mem_of_getElem? (i := 3) rfl)
  have hst_min : (Cond.static Lib.Math.min.name).before args s = true := hts _ (List.mem_of_getElem? (i := 4) rfl)
  have hin_Math : (Cond.initialized "java/lang/Math").before args s = true := hts _ (List.mem_of_getElem? (i := 5) rfl)
  have hcd_min : (Cond.code Lib.Math.min.name Lib.Math.min.code 2 (some .int)).before args s = true := hts _ (List.mem_of_getElem? (i := 6) rfl)
  have hl := lv_entry ([.ref (ad 0), .int (iI pz1)]) (n := 6) (Nat.le_of_ble_eq_true rfl)
  rw [show entryFrame m args 6 = entryFrame m ([.ref (ad 0), .int (iI pz1)] : List Value).toArray 6 from by rw [hav], lg_entry_eq]
  generalize (lg_sl ([.ref (ad 0), .int (iI pz1)]) ++ List.replicate (6 - (lg_sl ([.ref (ad 0), .int (iI pz1)])).length) Slot.unset).toArray = ls at hl ⊢
  have hl : lv_has ls 6 [(0, .ref (ad 0)), (1, .int (iI pz1))] := hl
  unfold s_X7_lowestBestFrom at hs
  have Lz14 : ∀ (fu : Nat) (l1 : Int) (l2 : Int) (l3 : Int) (l4 : Int) (y0 : Int), s_X7_lowestBestFrom_14 fu x_keywords_given a_keywords_weights x_stream_length a_matches_words a_bestFrom l1 l2 l3 l4 = some y0 → ∀ ls : Array Slot, lv_has ls 6 [(0, .ref (ad 0)), (1, .int (iI l1)), (2, .int (iI l2)), (3, .int (iI l3)), (4, .int (iI l4))] → (∀ ls : Array Slot, lv_has ls 6 [(2, .int (iI y0))] → W p l e (headSpec wsX7_lowestBestFrom rm_X7_lowestBestFrom).room s m args below meth c s.heap [] 0 0 (MQ below (QR (some (.int (iI r)))) args s 0 0 (fun _ => False)) (F0 m 72 ls [])) → W p l e (headSpec wsX7_lowestBestFrom rm_X7_lowestBestFrom).room s m args below meth c s.heap [] 0 0 (MQ below (QR (some (.int (iI r)))) args s 0 0 (fun _ => False)) (F0 m 14 ls []) := by
    intro fu
    induction fu with
    | zero => intro l1 l2 l3 l4 y0 hs; cases hs
    | succ fu ih =>
      intro l1 l2 l3 l4 y0 hs ls hl kx
      rw [s_X7_lowestBestFrom_14_s] at hs
      refine lv_iload hx hb dX7_lowestBestFrom_14 (lv_at hl 4 rfl) ?_
      refine lv_iload_n hx hb dX7_lowestBestFrom_16 rfl (lv_at hl 3 rfl) ?_
      refine k_icmp_gt (tgt := 72) hx hb hs dX7_lowestBestFrom_17 (by decide) (fun hs => ?_) (fun hs => ?_)
      · cases hs
        exact kx ls (lv_sub hl [2] rfl)
      · refine lv_aload_n hx hb dX7_lowestBestFrom_20 rfl (lv_at hl 0 rfl) ?_
        refine lv_iload_n hx hb dX7_lowestBestFrom_21 rfl (lv_at hl 1 rfl) ?_
        refine lv_iload hx hb dX7_lowestBestFrom_22 (lv_at hl 4 rfl) ?_
        obtain ⟨vz2, hcz, hs⟩ := bd1_some hs
        refine k_rV (As := [.int (iI l1), .int (iI l4)]) (rest := []) (st1 := [.long (iL vz2)]) ⟨hx, hb, hml, hown, hts⟩ hK hP (c_X7_worthFrom l D cI cZ cJ hcz) (cwV 2 hts gX7_lowestBestFrom_X7_worthFrom rfl rfl rfl (by decide +kernel) ⟨Nat.le_of_ble_eq_true rfl, Nat.le_of_ble_eq_true rfl⟩) 0 rfl rfl rfl rfl hl.1 rfl (lv_room (Nat.le_of_ble_eq_true rfl)) dX7_lowestBestFrom_24 ⟨Nat.zero_le _, Nat.zero_le _⟩ rfl ?_
        refine lv_aload_n hx hb dX7_lowestBestFrom_27 rfl (lv_at hl 0 rfl) ?_
        refine va_get (ci := 7) (v := .ref (ad 32)) (C := RX7) (T := TX7) (N := 15) hx hb hts hiX7 hown hK hP 0 rfl rfl 11 (by decide) hf75 (fun _ h9 => h9) rfl dX7_lowestBestFrom_28 ?_
        refine lv_iload_n hx hb dX7_lowestBestFrom_31 rfl (lv_at hl 1 rfl) ?_
        refine k_lald hx hb hK hP 32 2 rfl rfl (Nat.le_of_ble_eq_true rfl) hs dX7_lowestBestFrom_32 (fun vz3 hs => ?_)
        refine k_lcmp_ne (tgt := 66) hx hb hs dX7_lowestBestFrom_33 dX7_lowestBestFrom_34 (by decide) (fun hs => ?_) (fun hs => ?_)
        · refine lv_aload_n hx hb dX7_lowestBestFrom_37 rfl (lv_at hl 0 rfl) ?_
          refine va_get (ci := 7) (v := .ref (ad 23)) (C := RX7) (T := TX7) (N := 15) hx hb hts hiX7 hown hK hP 0 rfl rfl 7 (by decide) hf57 (fun _ h9 => h9) rfl dX7_lowestBestFrom_38 ?_
          refine lv_iload_n hx hb dX7_lowestBestFrom_41 rfl (lv_at hl 1 rfl) ?_
          refine lv_iload hx hb dX7_lowestBestFrom_42 (lv_at hl 4 rfl) ?_
          obtain ⟨vz4, hcz, hs⟩ := bd1_some hs
          have hPc : va_P D vwCl [((ad 23), .inr (5, [.ref (ad 24)])), ((ad 24), .inl (cJ, 1200, .inr (.inl (mL a_matches_words))))] s.heap := hP.sub [23, 24] rfl
          refine k_rV (As := [.int (iI l1), .int (iI l4)]) (rest := []) (st1 := [.int (iI vz4)]) ⟨hx, hb, hml, hown, hts⟩ hK hPc (c_X5_at l D cI cZ cJ hcz) (cwV 2 hts gX7_lowestBestFrom_X5_at rfl rfl rfl (by decide +kernel) ⟨Nat.le_of_ble_eq_true rfl, Nat.le_of_ble_eq_true rfl⟩) 0 rfl rfl rfl rfl hl.1 rfl (lv_room (Nat.le_of_ble_eq_true rfl)) dX7_lowestBestFrom_44 ⟨Nat.zero_le _, Nat.zero_le _⟩ rfl ?_
          refine lv_istore (lv' := [(5, .int (iI vz4)), (0, .ref (ad 0)), (1, .int (iI l1)), (2, .int (iI l2)), (3, .int (iI l3)), (4, .int (iI l4))]) hx hb dX7_lowestBestFrom_47 hl (by decide) rfl (fun ls hl => ?_)
          refine lv_iload_n hx hb dX7_lowestBestFrom_49 rfl (lv_at hl 3 rfl) ?_
          refine k_iconst (n := (-1)) hx hb dX7_lowestBestFrom_50 ?_
          refine k_icmp_ne (tgt := 59) hx hb hs dX7_lowestBestFrom_51 (by decide) (fun hs => ?_) (fun hs => ?_)
          · refine lv_iload hx hb dX7_lowestBestFrom_54 (lv_at hl 0 rfl) ?_
            refine lv_goto (tgt := 65) hx hb dX7_lowestBestFrom_56 (by decide) ?_
            refine lv_istore_n (lv' := [(2, .int (iI vz4)), (5, .int (iI vz4)), (0, .ref (ad 0)), (1, .int (iI l1)), (3, .int (iI l3)), (4, .int (iI l4))]) hx hb dX7_lowestBestFrom_65 rfl hl (by decide) rfl (fun ls hl => ?_)
            refine k_iinc (x := l4) (k := 5) (lv' := [(4, .int (iI (l4 + 1))), (2, .int (iI vz4)), (5, .int (iI vz4)), (0, .ref (ad 0)), (1, .int (iI l1)), (3, .int (iI l3))]) hx hb dX7_lowestBestFrom_66 hl rfl (by decide) rfl (fun ls hl => ?_)
            refine lv_goto (tgt := 14) hx hb dX7_lowestBestFrom_69 (by decide) ?_
            exact ih l1 vz4 l3 (l4 + 1) y0 hs ls (lv_sub hl [3, 4, 1, 5, 0] rfl) kx
          · refine lv_iload_n hx hb dX7_lowestBestFrom_59 rfl (lv_at hl 3 rfl) ?_
            refine lv_iload hx hb dX7_lowestBestFrom_60 (lv_at hl 0 rfl) ?_
            refine k_mmin hx hb (hml.trans hl.1.symm) hown hm197 hst_min hin_Math hcd_min (Nat.le_of_ble_eq_true rfl) (Nat.le_of_ble_eq_true rfl) (Nat.zero_le _) (Nat.zero_le _) hs dX7_lowestBestFrom_62 (fun hs => ?_)
            refine lv_istore_n (lv' := [(2, .int (iI (iMin l2 vz4))), (5, .int (iI vz4)), (0, .ref (ad 0)), (1, .int (iI l1)), (3, .int (iI l3)), (4, .int (iI l4))]) hx hb dX7_lowestBestFrom_65 rfl hl (by decide) rfl (fun ls hl => ?_)
            refine k_iinc (x := l4) (k := 5) (lv' := [(4, .int (iI (l4 + 1))), (2, .int (iI (iMin l2 vz4))), (5, .int (iI vz4)), (0, .ref (ad 0)), (1, .int (iI l1)), (3, .int (iI l3))]) hx hb dX7_lowestBestFrom_66 hl rfl (by decide) rfl (fun ls hl => ?_)
            refine lv_goto (tgt := 14) hx hb dX7_lowestBestFrom_69 (by decide) ?_
            exact ih l1 (iMin l2 vz4) l3 (l4 + 1) y0 hs ls (lv_sub hl [3, 4, 1, 5, 0] rfl) kx
        · refine k_iinc (x := l4) (k := 4) (lv' := [(4, .int (iI (l4 + 1))), (0, .ref (ad 0)), (1, .int (iI l1)), (2, .int (iI l2)), (3, .int (iI l3))]) hx hb dX7_lowestBestFrom_66 hl rfl (by decide) rfl (fun ls hl => ?_)
          refine lv_goto (tgt := 14) hx hb dX7_lowestBestFrom_69 (by decide) ?_
          exact ih l1 l2 l3 (l4 + 1) y0 hs ls (lv_sub hl [1, 2, 3, 4, 0] rfl) kx
  refine k_iconst (n := (-1)) hx hb dX7_lowestBestFrom_0 ?_
  refine lv_istore_n (lv' := [(2, .int (iI (-1))), (0, .ref (ad 0)), (1, .int (iI pz1))]) hx hb dX7_lowestBestFrom_1 rfl hl (by decide) rfl (fun ls hl => ?_)
  refine lv_aload_n hx hb dX7_lowestBestFrom_2 rfl (lv_at hl 1 rfl) ?_
  refine va_get (ci := 7) (v := .ref (ad 23)) (C := RX7) (T := TX7) (N := 15) hx hb hts hiX7 hown hK hP 0 rfl rfl 7 (by decide) hf57 (fun _ h9 => h9) rfl dX7_lowestBestFrom_3 ?_
  refine lv_iload_n hx hb dX7_lowestBestFrom_6 rfl (lv_at hl 2 rfl) ?_
  obtain ⟨vz1, hcz, hs⟩ := bd1_some hs
  have hPc : va_P D vwCl [((ad 23), .inr (5, [.ref (ad 24)])), ((ad 24), .inl (cJ, 1200, .inr (.inl (mL a_matches_words))))] s.heap := hP.sub [23, 24] rfl
  refine k_rV (As := [.int (iI pz1)]) (rest := []) (st1 := [.int (iI vz1)]) ⟨hx, hb, hml, hown, hts⟩ hK hPc (c_X5_longestFrom l D cI cZ cJ hcz) (cwV 1 hts gX7_lowestBestFrom_X5_longestFrom rfl rfl rfl (by decide +kernel) ⟨Nat.le_of_ble_eq_true rfl, Nat.le_of_ble_eq_true rfl⟩) 0 rfl rfl rfl rfl hl.1 rfl (lv_room (Nat.le_of_ble_eq_true rfl)) dX7_lowestBestFrom_7 ⟨Nat.zero_le _, Nat.zero_le _⟩ rfl ?_
  refine lv_istore_n (lv' := [(3, .int (iI vz1)), (2, .int (iI (-1))), (0, .ref (ad 0)), (1, .int (iI pz1))]) hx hb dX7_lowestBestFrom_10 rfl hl (by decide) rfl (fun ls hl => ?_)
  refine k_iconst (n := 1) hx hb dX7_lowestBestFrom_11 ?_
  refine lv_istore (lv' := [(4, .int (iI 1)), (3, .int (iI vz1)), (2, .int (iI (-1))), (0, .ref (ad 0)), (1, .int (iI pz1))]) hx hb dX7_lowestBestFrom_12 hl (by decide) rfl (fun ls hl => ?_)
  obtain ⟨ez5, hq, hs⟩ := bd1_some hs
  refine Lz14 FU pz1 (-1) vz1 1 ez5 hq ls (lv_sub hl [3, 4, 2, 1, 0] rfl) ?_
  intro ls hl
  refine lv_iload_n hx hb dX7_lowestBestFrom_72 rfl (lv_at hl 0 rfl) ?_
  cases hs
  exact k_iret_r hx hb hr hlk rfl dX7_lowestBestFrom_73 rfl
