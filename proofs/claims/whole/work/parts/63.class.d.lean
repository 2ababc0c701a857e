/-! X7_matchCount -/
set_option maxHeartbeats 4000000 in
set_option maxRecDepth 100000 in
theorem c_X7_matchCount (l : Launch) (D : va_G) (cI cZ cJ : ClassId) {ad : Nat → Nat} {x_work : Int} {x_rebuilds : Int} {x_reported : Int} {x_folding_on : Int} {x_buffer_length : Int} {a_buffer_bytes : (Int → Int)} {x_keywords_given : Int} {x_keywords_alive : Int} {a_keywords_bytes : (Int → Int)} {a_keywords_lengths : (Int → Int)} {a_keywords_weights : (Int → Int)} {a_keywords_lives : (Int → Int)} {x_mainSet_count : Int} {a_mainSet_members : (Int → Int)} {x_removalSet_count : Int} {a_removalSet_members : (Int → Int)} {x_superstring_slots : Int} {x_superstring_built : Int} {b_superstring_sw : Bool} {a_superstring_starts : (Int → Int)} {a_superstring_lengths : (Int → Int)} {a_superstring_overlaps : (Int → Int)} {x_superstring_area_length : Int} {a_superstring_area_bytes : (Int → Int)} {x_superstring_spare_length : Int} {a_superstring_spare_bytes : (Int → Int)} {x_stream_length : Int} {a_stream_bytes : (Int → Int)} {a_matches_words : (Int → Int)} {x_reports_size : Int} {a_reports_positions : (Int → Int)} {a_reports_numbers : (Int → Int)} {x_chosen_size : Int} {a_chosen_positions : (Int → Int)} {a_chosen_numbers : (Int → Int)} {a_depths : (Int → Int)} {a_bestFrom : (Int → Int)} {r : Int} (hs : s_X7_matchCount x_stream_length a_matches_words = some r) : Met l yX7_matchCount wsX7_matchCount rm_X7_matchCount (PR D vwCl [(cI, .int), (cZ, .boolean), (cJ, .long)] [.ref (ad 0)] (wK cI cZ cJ ad x_work x_rebuilds x_reported x_folding_on x_buffer_length a_buffer_bytes x_keywords_given x_keywords_alive a_keywords_bytes a_keywords_lengths a_keywords_weights a_keywords_lives x_mainSet_count a_mainSet_members x_removalSet_count a_removalSet_members x_superstring_slots x_superstring_built b_superstring_sw a_superstring_starts a_superstring_lengths a_superstring_overlaps x_superstring_area_length a_superstring_area_bytes x_superstring_spare_length a_superstring_spare_bytes x_stream_length a_stream_bytes a_matches_words x_reports_size a_reports_positions a_reports_numbers x_chosen_size a_chosen_positions a_chosen_numbers a_depths a_bestFrom)) (QR (some (.int (iI r)))) 0 0 (fun _ => False) := by
  refine Met.ofW (cc := cX7_matchCount) (maxL := 3) (ret := (some .int)) (by decide) rfl ?_
  intro p e s m args below meth c s₁ B hml hv
  obtain ⟨hav, hP, hK⟩ := hv
  have hx := B.exec
  have hb := B.bytes
  have hr := B.returns
  have hts := atoms_spec (ws := wsX7_matchCount) B.pre
  have hown : s.vm.findClass RX7 = some m.cls := findClass_of_methodNamed B.named
  have hlk := B.notSynchronized
  have hf51 : (Cond.fieldLink RX7 51 "KeywordMatcher" "stream" "LKeywordMatcher$ByteRow;").before args s = true := hts _ (List.mem_of_getElem? (i := 1) rfl)
  have hiX7 : ∀ w ∈ wsX70, w ∈ wsX7_matchCount := fun w h => List.mem_cons_of_mem _ (List.mem_append_left _ (List.mem_append_left _ (List.mem_append_right _ h)))
  have hf89 : (Cond.fieldLink RX7 89 "KeywordMatcher$ByteRow" "length" "I").before args s = true := hts _ (List.mem_of_getElem? (i := 2) rfl)
  have hiX1 : ∀ w ∈ wsX10, w ∈ wsX7_matchCount := fun w h => List.mem_cons_of_mem _ (List.mem_append_left _ (List.mem_append_right _ h))
  have hf57 : (Cond.fieldLink RX7 57 "KeywordMatcher" "matches" "LKeywordMatcher$MatchTable;").before args s = true := hts _ (List.mem_of_getElem? (i := 3) rfl)
  have hl := lv_entry ([.ref (ad 0)]) (n := 3) (Nat.le_of_ble_eq_true rfl)
  rw [show entryFrame m args 3 = entryFrame m ([.ref (ad 0)] : List Value).toArray 3 from by rw [hav], lg_entry_eq]
  generalize (lg_sl ([.ref (ad 0)]) ++ List.replicate (3 - (lg_sl ([.ref (ad 0)])).length) Slot.unset).toArray = ls at hl ⊢
  have hl : lv_has ls 3 [(0, .ref (ad 0))] := hl
  unfold s_X7_matchCount at hs
  have Lz4 : ∀ (fu : Nat) (l1 : Int) (l2 : Int) (y0 : Int), s_X7_matchCount_4 fu x_stream_length a_matches_words l1 l2 = some y0 → ∀ ls : Array Slot, lv_has ls 3 [(0, .ref (ad 0)), (1, .int (iI l1)), (2, .int (iI l2))] → (∀ ls : Array Slot, lv_has ls 3 [(1, .int (iI y0))] → W p l e (headSpec wsX7_matchCount rm_X7_matchCount).room s m args below meth c s.heap [] 0 0 (MQ below (QR (some (.int (iI r)))) args s 0 0 (fun _ => False)) (F0 m 32 ls [])) → W p l e (headSpec wsX7_matchCount rm_X7_matchCount).room s m args below meth c s.heap [] 0 0 (MQ below (QR (some (.int (iI r)))) args s 0 0 (fun _ => False)) (F0 m 4 ls []) := by
    intro fu
    induction fu with
    | zero => intro l1 l2 y0 hs; cases hs
    | succ fu ih =>
      intro l1 l2 y0 hs ls hl kx
      rw [s_X7_matchCount_4_s] at hs
      refine lv_iload_n hx hb dX7_matchCount_4 rfl (lv_at hl 2 rfl) ?_
      refine lv_aload_n hx hb dX7_matchCount_5 rfl (lv_at hl 0 rfl) ?_
      refine va_get (ci := 7) (v := .ref (ad 21)) (C := RX7) (T := TX7) (N := 15) hx hb hts hiX7 hown hK hP 0 rfl rfl 6 (by decide) hf51 (fun _ h9 => h9) rfl dX7_matchCount_6 ?_
      refine va_get (ci := 1) (v := .int (iI x_stream_length)) (C := RX1) (T := TX1) (N := 2) hx hb hts hiX1 hown hK hP 21 rfl rfl 1 (by decide) hf89 (fun _ h9 => h9) rfl dX7_matchCount_9 ?_
      refine k_icmp_ge (tgt := 32) hx hb hs dX7_matchCount_12 (by decide) (fun hs => ?_) (fun hs => ?_)
      · refine lv_iload_n hx hb dX7_matchCount_15 rfl (lv_at hl 1 rfl) ?_
        refine lv_aload_n hx hb dX7_matchCount_16 rfl (lv_at hl 0 rfl) ?_
        refine va_get (ci := 7) (v := .ref (ad 23)) (C := RX7) (T := TX7) (N := 15) hx hb hts hiX7 hown hK hP 0 rfl rfl 7 (by decide) hf57 (fun _ h9 => h9) rfl dX7_matchCount_17 ?_
        refine lv_iload_n hx hb dX7_matchCount_20 rfl (lv_at hl 2 rfl) ?_
        obtain ⟨vz1, hcz, hs⟩ := bd1_some hs
        have hPc : va_P D vwCl [((ad 23), .inr (5, [.ref (ad 24)])), ((ad 24), .inl (cJ, 1200, .inr (.inl (mL a_matches_words))))] s.heap := hP.sub [23, 24] rfl
        refine k_rV (As := [.int (iI l2)]) (rest := [.int (iI l1)]) (st1 := [.int (iI vz1), .int (iI l1)]) ⟨hx, hb, hml, hown, hts⟩ hK hPc (c_X5_countFrom l D cI cZ cJ hcz) (cwV 1 hts gX7_matchCount_X5_countFrom rfl rfl rfl (by decide +kernel) ⟨Nat.le_of_ble_eq_true rfl, Nat.le_of_ble_eq_true rfl⟩) 0 rfl rfl rfl rfl hl.1 rfl (lv_room (Nat.le_of_ble_eq_true rfl)) dX7_matchCount_21 ⟨Nat.zero_le _, Nat.zero_le _⟩ rfl ?_
        refine k_iadd hx hb dX7_matchCount_24 ?_
        refine lv_istore_n (lv' := [(1, .int (iI (l1 + vz1))), (0, .ref (ad 0)), (2, .int (iI l2))]) hx hb dX7_matchCount_25 rfl hl (by decide) rfl (fun ls hl => ?_)
        refine k_iinc (x := l2) (k := 2) (lv' := [(2, .int (iI (l2 + 1))), (1, .int (iI (l1 + vz1))), (0, .ref (ad 0))]) hx hb dX7_matchCount_26 hl rfl (by decide) rfl (fun ls hl => ?_)
        refine lv_goto (tgt := 4) hx hb dX7_matchCount_29 (by decide) ?_
        exact ih (l1 + vz1) (l2 + 1) y0 hs ls (lv_sub hl [2, 1, 0] rfl) kx
      · cases hs
        exact kx ls (lv_sub hl [1] rfl)
  refine k_iconst (n := 0) hx hb dX7_matchCount_0 ?_
  refine lv_istore_n (lv' := [(1, .int (iI 0)), (0, .ref (ad 0))]) hx hb dX7_matchCount_1 rfl hl (by decide) rfl (fun ls hl => ?_)
  refine k_iconst (n := 0) hx hb dX7_matchCount_2 ?_
  refine lv_istore_n (lv' := [(2, .int (iI 0)), (1, .int (iI 0)), (0, .ref (ad 0))]) hx hb dX7_matchCount_3 rfl hl (by decide) rfl (fun ls hl => ?_)
  obtain ⟨ez2, hq, hs⟩ := bd1_some hs
  refine Lz4 FU 0 0 ez2 hq ls (lv_sub hl [2, 1, 0] rfl) ?_
  intro ls hl
  refine lv_iload_n hx hb dX7_matchCount_32 rfl (lv_at hl 0 rfl) ?_
  cases hs
  exact k_iret_r hx hb hr hlk rfl dX7_matchCount_33 rfl
/-! X7_matchCountOf -/
set_option maxHeartbeats 4000000 in
set_option maxRecDepth 100000 in
theorem c_X7_matchCountOf (l : Launch) (D : va_G) (cI cZ cJ : ClassId) {ad : Nat → Nat} {x_work : Int} {x_rebuilds : Int} {x_reported : Int} {x_folding_on : Int} {x_buffer_length : Int} {a_buffer_bytes : (Int → Int)} {x_keywords_given : Int} {x_keywords_alive : Int} {a_keywords_bytes : (Int → Int)} {a_keywords_lengths : (Int → Int)} {a_keywords_weights : (Int → Int)} {a_keywords_lives : (Int → Int)} {x_mainSet_count : Int} {a_mainSet_members : (Int → Int)} {x_removalSet_count : Int} {a_removalSet_members : (Int → Int)} {x_superstring_slots : Int} {x_superstring_built : Int} {b_superstring_sw : Bool} {a_superstring_starts : (Int → Int)} {a_superstring_lengths : (Int → Int)} {a_superstring_overlaps : (Int → Int)} {x_superstring_area_length : Int} {a_superstring_area_bytes : (Int → Int)} {x_superstring_spare_length : Int} {a_superstring_spare_bytes : (Int → Int)} {x_stream_length : Int} {a_stream_bytes : (Int → Int)} {a_matches_words : (Int → Int)} {x_reports_size : Int} {a_reports_positions : (Int → Int)} {a_reports_numbers : (Int → Int)} {x_chosen_size : Int} {a_chosen_positions : (Int → Int)} {a_chosen_numbers : (Int → Int)} {a_depths : (Int → Int)} {a_bestFrom : (Int → Int)} {pz1 : Int} {r : Int} (hs : s_X7_matchCountOf x_keywords_given a_keywords_lengths a_keywords_lives x_stream_length a_matches_words pz1 = some r) : Met l yX7_matchCountOf wsX7_matchCountOf rm_X7_matchCountOf (PR D vwCl [(cI, .int), (cZ, .boolean), (cJ, .long)] [.ref (ad 0), .int (iI pz1)] (wK cI cZ cJ ad x_work x_rebuilds x_reported x_folding_on x_buffer_length a_buffer_bytes x_keywords_given x_keywords_alive a_keywords_bytes a_keywords_lengths a_keywords_weights a_keywords_lives x_mainSet_count a_mainSet_members x_removalSet_count a_removalSet_members x_superstring_slots x_superstring_built b_superstring_sw a_superstring_starts a_superstring_lengths a_superstring_overlaps x_superstring_area_length a_superstring_area_bytes x_superstring_spare_length a_superstring_spare_bytes x_stream_length a_stream_bytes a_matches_words x_reports_size a_reports_positions a_reports_numbers x_chosen_size a_chosen_positions a_chosen_numbers a_depths a_bestFrom)) (QR (some (.int (iI r)))) 0 0 (fun _ => False) := by
  refine Met.ofW (cc := cX7_matchCountOf) (maxL := 5) (ret := (some .int)) (by decide) rfl ?_
  intro p e s m args below meth c s₁ B hml hv
  obtain ⟨hav, hP, hK⟩ := hv
  have hx := B.exec
  have hb := B.bytes
  have hr := B.returns
  have hts := atoms_spec (ws := wsX7_matchCountOf) B.pre
  have hown : s.vm.findClass RX7 = some m.cls := findClass_of_methodNamed B.named
  have hlk := B.notSynchronized
  have hf30 : (Cond.fieldLink RX7 30 "KeywordMatcher" "keywords" "LKeywordMatcher$Keywords;").before args s = true := hts _ (List.mem_of_getElem? (i := 1) rfl)
  have hiX7 : ∀ w ∈ wsX70, w ∈ wsX7_matchCountOf := fun w h => List.mem_cons_of_mem _ (List.mem_append_left _ (List.mem_append_left _ (List.mem_append_left _ (List.mem_append_right _ h))))
  have hf51 : (Cond.fieldLink RX7 51 "KeywordMatcher" "stream" "LKeywordMatcher$ByteRow;").before args s = true := hts _ (List.mem_of_getElem? (i := 2) rfl)
  have hf89 : (Cond.fieldLink RX7 89 "KeywordMatcher$ByteRow" "length" "I").before args s = true := hts _ (List.mem_of_getElem? (i := 3) rfl)
  have hiX1 : ∀ w ∈ wsX10, w ∈ wsX7_matchCountOf := fun w h => List.mem_cons_of_mem _ (List.mem_append_left _ (List.mem_append_left _ (List.mem_append_right _ h)))
  have hf57 : (Cond.fieldLink RX7 57 "KeywordMatcher" "matches" "LKeywordMatcher$MatchTable;").before args s = true := hts _ (List.mem_of_getElem? (i := 4) rfl)
  have hl := lv_entry ([.ref (ad 0), .int (iI pz1)]) (n := 5) (Nat.le_of_ble_eq_true rfl)
  rw [show entryFrame m args 5 = entryFrame m ([.ref (ad 0), .int (iI pz1)] : List Value).toArray 5 from by rw [hav], lg_entry_eq]
  generalize (lg_sl ([.ref (ad 0), .int (iI pz1)]) ++ List.replicate (5 - (lg_sl ([.ref (ad 0), .int (iI pz1)])).length) Slot.unset).toArray = ls at hl ⊢
  have hl : lv_has ls 5 [(0, .ref (ad 0)), (1, .int (iI pz1))] := hl
  unfold s_X7_matchCountOf at hs
  have Lz28 : ∀ (fu : Nat) (l1 : Int) (l2 : Int) (l3 : Int) (l4 : Int) (y0 : Int), s_X7_matchCountOf_28 fu x_stream_length a_matches_words l1 l2 l3 l4 = some y0 → ∀ ls : Array Slot, lv_has ls 5 [(0, .ref (ad 0)), (1, .int (iI l1)), (2, .int (iI l2)), (3, .int (iI l3)), (4, .int (iI l4))] → (∀ ls : Array Slot, lv_has ls 5 [(3, .int (iI y0))] → W p l e (headSpec wsX7_matchCountOf rm_X7_matchCountOf).room s m args below meth c s.heap [] 0 0 (MQ below (QR (some (.int (iI r)))) args s 0 0 (fun _ => False)) (F0 m 63 ls [])) → W p l e (headSpec wsX7_matchCountOf rm_X7_matchCountOf).room s m args below meth c s.heap [] 0 0 (MQ below (QR (some (.int (iI r)))) args s 0 0 (fun _ => False)) (F0 m 28 ls []) := by
    intro fu
    induction fu with
    | zero => intro l1 l2 l3 l4 y0 hs; cases hs
    | succ fu ih =>
      intro l1 l2 l3 l4 y0 hs ls hl kx
      rw [s_X7_matchCountOf_28_s] at hs
      refine lv_iload hx hb dX7_matchCountOf_28 (lv_at hl 4 rfl) ?_
      refine lv_aload_n hx hb dX7_matchCountOf_30 rfl (lv_at hl 0 rfl) ?_
      refine va_get (ci := 7) (v := .ref (ad 21)) (C := RX7) (T := TX7) (N := 15) hx hb hts hiX7 hown hK hP 0 rfl rfl 6 (by decide) hf51 (fun _ h9 => h9) rfl dX7_matchCountOf_31 ?_
      refine va_get (ci := 1) (v := .int (iI x_stream_length)) (C := RX1) (T := TX1) (N := 2) hx hb hts hiX1 hown hK hP 21 rfl rfl 1 (by decide) hf89 (fun _ h9 => h9) rfl dX7_matchCountOf_34 ?_
      refine k_icmp_ge (tgt := 63) hx hb hs dX7_matchCountOf_37 (by decide) (fun hs => ?_) (fun hs => ?_)
      · refine lv_aload_n hx hb dX7_matchCountOf_40 rfl (lv_at hl 0 rfl) ?_
        refine va_get (ci := 7) (v := .ref (ad 23)) (C := RX7) (T := TX7) (N := 15) hx hb hts hiX7 hown hK hP 0 rfl rfl 7 (by decide) hf57 (fun _ h9 => h9) rfl dX7_matchCountOf_41 ?_
        refine lv_iload hx hb dX7_matchCountOf_44 (lv_at hl 4 rfl) ?_
        refine lv_iload_n hx hb dX7_matchCountOf_46 rfl (lv_at hl 2 rfl) ?_
        obtain ⟨vz3, hcz, hs⟩ := bd1_some hs
        have hPc : va_P D vwCl [((ad 23), .inr (5, [.ref (ad 24)])), ((ad 24), .inl (cJ, 1200, .inr (.inl (mL a_matches_words))))] s.heap := hP.sub [23, 24] rfl
        refine k_rV (As := [.int (iI l4), .int (iI l2)]) (rest := []) (st1 := [.int (iI vz3)]) ⟨hx, hb, hml, hown, hts⟩ hK hPc (c_X5_at l D cI cZ cJ hcz) (cwV 2 hts gX7_matchCountOf_X5_at rfl rfl rfl (by decide +kernel) ⟨Nat.le_of_ble_eq_true rfl, Nat.le_of_ble_eq_true rfl⟩) 0 rfl rfl rfl rfl hl.1 rfl (lv_room (Nat.le_of_ble_eq_true rfl)) dX7_matchCountOf_47 ⟨Nat.zero_le _, Nat.zero_le _⟩ rfl ?_
        refine lv_iload_n hx hb dX7_matchCountOf_50 rfl (lv_at hl 1 rfl) ?_
        refine k_icmp_ne (tgt := 57) hx hb hs dX7_matchCountOf_51 (by decide) (fun hs => ?_) (fun hs => ?_)
        · refine k_iinc (x := l3) (k := 3) (lv' := [(3, .int (iI (l3 + 1))), (0, .ref (ad 0)), (1, .int (iI l1)), (2, .int (iI l2)), (4, .int (iI l4))]) hx hb dX7_matchCountOf_54 hl rfl (by decide) rfl (fun ls hl => ?_)
          refine k_iinc (x := l4) (k := 4) (lv' := [(4, .int (iI (l4 + 1))), (3, .int (iI (l3 + 1))), (0, .ref (ad 0)), (1, .int (iI l1)), (2, .int (iI l2))]) hx hb dX7_matchCountOf_57 hl rfl (by decide) rfl (fun ls hl => ?_)
          refine lv_goto (tgt := 28) hx hb dX7_matchCountOf_60 (by decide) ?_
          exact ih l1 l2 (l3 + 1) (l4 + 1) y0 hs ls (lv_sub hl [2, 3, 4, 1, 0] rfl) kx
        · refine k_iinc (x := l4) (k := 4) (lv' := [(4, .int (iI (l4 + 1))), (0, .ref (ad 0)), (1, .int (iI l1)), (2, .int (iI l2)), (3, .int (iI l3))]) hx hb dX7_matchCountOf_57 hl rfl (by decide) rfl (fun ls hl => ?_)
          refine lv_goto (tgt := 28) hx hb dX7_matchCountOf_60 (by decide) ?_
          exact ih l1 l2 l3 (l4 + 1) y0 hs ls (lv_sub hl [1, 2, 3, 4, 0] rfl) kx
      · cases hs
        exact kx ls (lv_sub hl [3] rfl)
  refine lv_aload_n hx hb dX7_matchCountOf_0 rfl (lv_at hl 0 rfl) ?_
  refine va_get (ci := 7) (v := .ref (ad 4)) (C := RX7) (T := TX7) (N := 15) hx hb hts hiX7 hown hK hP 0 rfl rfl 2 (by decide) hf30 (fun _ h9 => h9) rfl dX7_matchCountOf_1 ?_
  refine lv_iload_n hx hb dX7_matchCountOf_4 rfl (lv_at hl 1 rfl) ?_
  obtain ⟨vz1, hcz, hs⟩ := bd1_some hs
  have hPc : va_P D vwCl [((ad 4), .inr (3, [.ref (ad 1), .ref (ad 5), .ref (ad 6), .ref (ad 7), .ref (ad 8), .int (iI x_keywords_given), .int (iI x_keywords_alive)])), ((ad 1), .inr (2, [.int (iI x_folding_on)])), ((ad 5), .inl (cI, 1920, .inl (mI a_keywords_bytes))), ((ad 6), .inl (cI, 120, .inl (mI a_keywords_lengths))), ((ad 7), .inl (cI, 120, .inl (mI a_keywords_weights))), ((ad 8), .inl (cZ, 120, .inl (mI a_keywords_lives)))] s.heap := hP.sub [4, 1, 5, 6, 7, 8] rfl
  refine k_rV (As := [.int (iI pz1)]) (rest := []) (st1 := [.int (iI vz1)]) ⟨hx, hb, hml, hown, hts⟩ hK hPc (c_X3_isAlive l D cI cZ cJ hcz) (cwV 1 hts gX7_matchCountOf_X3_isAlive rfl rfl rfl (by decide +kernel) ⟨Nat.le_of_ble_eq_true rfl, Nat.le_of_ble_eq_true rfl⟩) 0 rfl rfl rfl rfl hl.1 rfl (lv_room (Nat.le_of_ble_eq_true rfl)) dX7_matchCountOf_5 ⟨Nat.zero_le _, Nat.zero_le _⟩ rfl ?_
  refine k_if_ne (tgt := 14) hx hb hs dX7_matchCountOf_8 (by decide) (fun hs => ?_) (fun hs => ?_)
  · refine k_bipush (n := (-2)) hx hb (by decide) dX7_matchCountOf_11 ?_
    cases hs
    exact k_iret_r hx hb hr hlk rfl dX7_matchCountOf_13 rfl
  · refine lv_aload_n hx hb dX7_matchCountOf_14 rfl (lv_at hl 0 rfl) ?_
    refine va_get (ci := 7) (v := .ref (ad 4)) (C := RX7) (T := TX7) (N := 15) hx hb hts hiX7 hown hK hP 0 rfl rfl 2 (by decide) hf30 (fun _ h9 => h9) rfl dX7_matchCountOf_15 ?_
    refine lv_iload_n hx hb dX7_matchCountOf_18 rfl (lv_at hl 1 rfl) ?_
    obtain ⟨vz2, hcz, hs⟩ := bd1_some hs
    have hPc : va_P D vwCl [((ad 4), .inr (3, [.ref (ad 1), .ref (ad 5), .ref (ad 6), .ref (ad 7), .ref (ad 8), .int (iI x_keywords_given), .int (iI x_keywords_alive)])), ((ad 1), .inr (2, [.int (iI x_folding_on)])), ((ad 5), .inl (cI, 1920, .inl (mI a_keywords_bytes))), ((ad 6), .inl (cI, 120, .inl (mI a_keywords_lengths))), ((ad 7), .inl (cI, 120, .inl (mI a_keywords_weights))), ((ad 8), .inl (cZ, 120, .inl (mI a_keywords_lives)))] s.heap := hP.sub [4, 1, 5, 6, 7, 8] rfl
    refine k_rV (As := [.int (iI pz1)]) (rest := []) (st1 := [.int (iI vz2)]) ⟨hx, hb, hml, hown, hts⟩ hK hPc (c_X3_lengthOf l D cI cZ cJ hcz) (cwV 1 hts gX7_matchCountOf_X3_lengthOf rfl rfl rfl (by decide +kernel) ⟨Nat.le_of_ble_eq_true rfl, Nat.le_of_ble_eq_true rfl⟩) 0 rfl rfl rfl rfl hl.1 rfl (lv_room (Nat.le_of_ble_eq_true rfl)) dX7_matchCountOf_19 ⟨Nat.zero_le _, Nat.zero_le _⟩ rfl ?_
    refine lv_istore_n (lv' := [(2, .int (iI vz2)), (0, .ref (ad 0)), (1, .int (iI pz1))]) hx hb dX7_matchCountOf_22 rfl hl (by decide) rfl (fun ls hl => ?_)
    refine k_iconst (n := 0) hx hb dX7_matchCountOf_23 ?_
    refine lv_istore_n (lv' := [(3, .int (iI 0)), (2, .int (iI vz2)), (0, .ref (ad 0)), (1, .int (iI pz1))]) hx hb dX7_matchCountOf_24 rfl hl (by decide) rfl (fun ls hl => ?_)
    refine k_iconst (n := 0) hx hb dX7_matchCountOf_25 ?_
    refine lv_istore (lv' := [(4, .int (iI 0)), (3, .int (iI 0)), (2, .int (iI vz2)), (0, .ref (ad 0)), (1, .int (iI pz1))]) hx hb dX7_matchCountOf_26 hl (by decide) rfl (fun ls hl => ?_)
    obtain ⟨ez4, hq, hs⟩ := bd1_some hs
    refine Lz28 FU pz1 vz2 0 0 ez4 hq ls (lv_sub hl [3, 4, 2, 1, 0] rfl) ?_
    intro ls hl
    refine lv_iload_n hx hb dX7_matchCountOf_63 rfl (lv_at hl 0 rfl) ?_
    cases hs
    exact k_iret_r hx hb hr hlk rfl dX7_matchCountOf_64 rfl
/-! X7_nextMatch -/
set_option maxHeartbeats 4000000 in
set_option maxRecDepth 100000 in
theorem c_X7_nextMatch (l : Launch) (D : va_G) (cI cZ cJ : ClassId) {ad : Nat → Nat} {x_work : Int} {x_rebuilds : Int} {x_reported : Int} {x_folding_on : Int} {x_buffer_length : Int} {a_buffer_bytes : (Int → Int)} {x_keywords_given : Int} {x_keywords_alive : Int} {a_keywords_bytes : (Int → Int)} {a_keywords_lengths : (Int → Int)} {a_keywords_weights : (Int → Int)} {a_keywords_lives : (Int → Int)} {x_mainSet_count : Int} {a_mainSet_members : (Int → Int)} {x_removalSet_count : Int} {a_removalSet_members : (Int → Int)} {x_superstring_slots : Int} {x_superstring_built : Int} {b_superstring_sw : Bool} {a_superstring_starts : (Int → Int)} {a_superstring_lengths : (Int → Int)} {a_superstring_overlaps : (Int → Int)} {x_superstring_area_length : Int} {a_superstring_area_bytes : (Int → Int)} {x_superstring_spare_length : Int} {a_superstring_spare_bytes : (Int → Int)} {x_stream_length : Int} {a_stream_bytes : (Int → Int)} {a_matches_words : (Int → Int)} {x_reports_size : Int} {a_reports_positions : (Int → Int)} {a_reports_numbers : (Int → Int)} {x_chosen_size : Int} {a_chosen_positions : (Int → Int)} {a_chosen_numbers : (Int → Int)} {a_depths : (Int → Int)} {a_bestFrom : (Int → Int)} {pz1 : Int} {pz2 : Int} {r : Int} (hs : s_X7_nextMatch x_keywords_given a_keywords_lengths a_keywords_lives x_stream_length a_matches_words pz1 pz2 = some r) : Met l yX7_nextMatch wsX7_nextMatch rm_X7_nextMatch (PR D vwCl [(cI, .int), (cZ, .boolean), (cJ, .long)] [.ref (ad 0), .int (iI pz1), .int (iI pz2)] (wK cI cZ cJ ad x_work x_rebuilds x_reported x_folding_on x_buffer_length a_buffer_bytes x_keywords_given x_keywords_alive a_keywords_bytes a_keywords_lengths a_keywords_weights a_keywords_lives x_mainSet_count a_mainSet_members x_removalSet_count a_removalSet_members x_superstring_slots x_superstring_built b_superstring_sw a_superstring_starts a_superstring_lengths a_superstring_overlaps x_superstring_area_length a_superstring_area_bytes x_superstring_spare_length a_superstring_spare_bytes x_stream_length a_stream_bytes a_matches_words x_reports_size a_reports_positions a_reports_numbers x_chosen_size a_chosen_positions a_chosen_numbers a_depths a_bestFrom)) (QR (some (.int (iI r)))) 0 0 (fun _ => False) := by
  refine Met.ofW (cc := cX7_nextMatch) (maxL := 5) (ret := (some .int)) (by decide) rfl ?_
  intro p e s m args below meth c s₁ B hml hv
  obtain ⟨hav, hP, hK⟩ := hv
  have hx := B.exec
  have hb := B.bytes
  have hr := B.returns
  have hts := atoms_spec (ws := wsX7_nextMatch) B.pre
  have hown : s.vm.findClass RX7 = some m.cls := findClass_of_methodNamed B.named
  have hlk := B.notSynchronized
  have hf30 : (Cond.fieldLink RX7 30 "KeywordMatcher" "keywords" "LKeywordMatcher$Keywords;").before args s = true := hts _ (List.mem_of_getElem? (i := 1) rfl)
  have hiX7 : ∀ w ∈ wsX70, w ∈ wsX7_nextMatch := fun w h => List.mem_cons_of_mem _ (List.mem_append_left _ (List.mem_append_left _ (List.mem_append_left _ (List.mem_append_right _ h))))
  have hf51 : (Cond.fieldLink RX7 51 "KeywordMatcher" "stream" "LKeywordMatcher$ByteRow;").before args s = true := hts _ (List.mem_of_getElem? (i := 2) rfl)
  have hf89 : (Cond.fieldLink RX7 89 "KeywordMatcher$ByteRow" "length" "I").before args s = true := hts _ (List.mem_of_getElem? (i := 3) rfl)
  have hiX1 : ∀ w ∈ wsX10, w ∈ wsX7_nextMatch := fun w h => List.mem_cons_of_mem _ (List.mem_append_left _ (List.mem_append_left _ (List.mem_append_right _ h)))
  have hf57 : (Cond.fieldLink RX7 57 "KeywordMatcher" "matches" "LKeywordMatcher$MatchTable;").before args s = true := hts _ (List.mem_of_getElem? (i := 4) rfl)
  have hl := lv_entry ([.ref (ad 0), .int (iI pz1), .int (iI pz2)]) (n := 5) (Nat.le_of_ble_eq_true rfl)
  rw [show entryFrame m args 5 = entryFrame m ([.ref (ad 0), .int (iI pz1), .int (iI pz2)] : List Value).toArray 5 from by rw [hav], lg_entry_eq]
  generalize (lg_sl ([.ref (ad 0), .int (iI pz1), .int (iI pz2)]) ++ List.replicate (5 - (lg_sl ([.ref (ad 0), .int (iI pz1), .int (iI pz2)])).length) Slot.unset).toArray = ls at hl ⊢
  have hl : lv_has ls 5 [(0, .ref (ad 0)), (1, .int (iI pz1)), (2, .int (iI pz2))] := hl
  unfold s_X7_nextMatch at hs
  have Lz33 : ∀ (fu : Nat) (l1 : Int) (l3 : Int) (l4 : Int), s_X7_nextMatch_33 fu x_stream_length a_matches_words l1 l3 l4 = some r → ∀ ls : Array Slot, lv_has ls 5 [(0, .ref (ad 0)), (1, .int (iI l1)), (3, .int (iI l3)), (4, .int (iI l4))] → W p l e (headSpec wsX7_nextMatch rm_X7_nextMatch).room s m args below meth c s.heap [] 0 0 (MQ below (QR (some (.int (iI r)))) args s 0 0 (fun _ => False)) (F0 m 33 ls []) := by
    intro fu
    induction fu with
    | zero => intro l1 l3 l4 hs; cases hs
    | succ fu ih =>
      intro l1 l3 l4 hs ls hl
      rw [s_X7_nextMatch_33_s] at hs
      refine lv_iload hx hb dX7_nextMatch_33 (lv_at hl 3 rfl) ?_
      refine lv_aload_n hx hb dX7_nextMatch_35 rfl (lv_at hl 0 rfl) ?_
      refine va_get (ci := 7) (v := .ref (ad 21)) (C := RX7) (T := TX7) (N := 15) hx hb hts hiX7 hown hK hP 0 rfl rfl 6 (by decide) hf51 (fun _ h9 => h9) rfl dX7_nextMatch_36 ?_
      refine va_get (ci := 1) (v := .int (iI x_stream_length)) (C := RX1) (T := TX1) (N := 2) hx hb hts hiX1 hown hK hP 21 rfl rfl 1 (by decide) hf89 (fun _ h9 => h9) rfl dX7_nextMatch_39 ?_
      refine k_icmp_ge (tgt := 68) hx hb hs dX7_nextMatch_42 (by decide) (fun hs => ?_) (fun hs => ?_)
      · refine lv_aload_n hx hb dX7_nextMatch_45 rfl (lv_at hl 0 rfl) ?_
        refine va_get (ci := 7) (v := .ref (ad 23)) (C := RX7) (T := TX7) (N := 15) hx hb hts hiX7 hown hK hP 0 rfl rfl 7 (by decide) hf57 (fun _ h9 => h9) rfl dX7_nextMatch_46 ?_
        refine lv_iload hx hb dX7_nextMatch_49 (lv_at hl 3 rfl) ?_
        refine lv_iload_n hx hb dX7_nextMatch_51 rfl (lv_at hl 2 rfl) ?_
        obtain ⟨vz3, hcz, hs⟩ := bd1_some hs
        have hPc : va_P D vwCl [((ad 23), .inr (5, [.ref (ad 24)])), ((ad 24), .inl (cJ, 1200, .inr (.inl (mL a_matches_words))))] s.heap := hP.sub [23, 24] rfl
        refine k_rV (As := [.int (iI l4), .int (iI l3)]) (rest := []) (st1 := [.int (iI vz3)]) ⟨hx, hb, hml, hown, hts⟩ hK hPc (c_X5_at l D cI cZ cJ hcz) (cwV 2 hts gX7_nextMatch_X5_at rfl rfl rfl (by decide +kernel) ⟨Nat.le_of_ble_eq_true rfl, Nat.le_of_ble_eq_true rfl⟩) 0 rfl rfl rfl rfl hl.1 rfl (lv_room (Nat.le_of_ble_eq_true rfl)) dX7_nextMatch_52 ⟨Nat.zero_le _, Nat.zero_le _⟩ rfl ?_
        refine lv_iload_n hx hb dX7_nextMatch_55 rfl (lv_at hl 1 rfl) ?_
        refine k_icmp_ne (tgt := 62) hx hb hs dX7_nextMatch_56 (by decide) (fun hs => ?_) (fun hs => ?_)
        · refine lv_iload hx hb dX7_nextMatch_59 (lv_at hl 3 rfl) ?_
          cases hs
          exact k_iret_r hx hb hr hlk rfl dX7_nextMatch_61 rfl
        · refine k_iinc (x := l4) (k := 3) (lv' := [(4, .int (iI (l4 + 1))), (0, .ref (ad 0)), (1, .int (iI l1)), (3, .int (iI l3))]) hx hb dX7_nextMatch_62 hl rfl (by decide) rfl (fun ls hl => ?_)
          refine lv_goto (tgt := 33) hx hb dX7_nextMatch_65 (by decide) ?_
          exact ih l1 l3 (l4 + 1)  hs ls (lv_sub hl [1, 2, 3, 0] rfl)
      · refine k_iconst (n := (-1)) hx hb dX7_nextMatch_68 ?_
        cases hs
        exact k_iret_r hx hb hr hlk rfl dX7_nextMatch_69 rfl
  refine lv_aload_n hx hb dX7_nextMatch_0 rfl (lv_at hl 0 rfl) ?_
  refine va_get (ci := 7) (v := .ref (ad 4)) (C := RX7) (T := TX7) (N := 15) hx hb hts hiX7 hown hK hP 0 rfl rfl 2 (by decide) hf30 (fun _ h9 => h9) rfl dX7_nextMatch_1 ?_
  refine lv_iload_n hx hb dX7_nextMatch_4 rfl (lv_at hl 1 rfl) ?_
  obtain ⟨vz1, hcz, hs⟩ := bd1_some hs
  have hPc : va_P D vwCl [((ad 4), .inr (3, [.ref (ad 1), .ref (ad 5), .ref (ad 6), .ref (ad 7), .ref (ad 8), .int (iI x_keywords_given), .int (iI x_keywords_alive)])), ((ad 1), .inr (2, [.int (iI x_folding_on)])), ((ad 5), .inl (cI, 1920, .inl (mI a_keywords_bytes))), ((ad 6), .inl (cI, 120, .inl (mI a_keywords_lengths))), ((ad 7), .inl (cI, 120, .inl (mI a_keywords_weights))), ((ad 8), .inl (cZ, 120, .inl (mI a_keywords_lives)))] s.heap := hP.sub [4, 1, 5, 6, 7, 8] rfl
  refine k_rV (As := [.int (iI pz1)]) (rest := []) (st1 := [.int (iI vz1)]) ⟨hx, hb, hml, hown, hts⟩ hK hPc (c_X3_isAlive l D cI cZ cJ hcz) (cwV 1 hts gX7_nextMatch_X3_isAlive rfl rfl rfl (by decide +kernel) ⟨Nat.le_of_ble_eq_true rfl, Nat.le_of_ble_eq_true rfl⟩) 0 rfl rfl rfl rfl hl.1 rfl (lv_room (Nat.le_of_ble_eq_true rfl)) dX7_nextMatch_5 ⟨Nat.zero_le _, Nat.zero_le _⟩ rfl ?_
  refine k_if_ne (tgt := 14) hx hb hs dX7_nextMatch_8 (by decide) (fun hs => ?_) (fun hs => ?_)
  · refine k_bipush (n := (-2)) hx hb (by decide) dX7_nextMatch_11 ?_
    cases hs
    exact k_iret_r hx hb hr hlk rfl dX7_nextMatch_13 rfl
  · refine lv_iload_n hx hb dX7_nextMatch_14 rfl (lv_at hl 2 rfl) ?_
    refine k_if_ge (tgt := 21) hx hb hs dX7_nextMatch_15 (by decide) (fun hs => ?_) (fun hs => ?_)
    · refine k_bipush (n := (-3)) hx hb (by decide) dX7_nextMatch_18 ?_
      cases hs
      exact k_iret_r hx hb hr hlk rfl dX7_nextMatch_20 rfl
    · refine lv_aload_n hx hb dX7_nextMatch_21 rfl (lv_at hl 0 rfl) ?_
      refine va_get (ci := 7) (v := .ref (ad 4)) (C := RX7) (T := TX7) (N := 15) hx hb hts hiX7 hown hK hP 0 rfl rfl 2 (by decide) hf30 (fun _ h9 => h9) rfl dX7_nextMatch_22 ?_
      refine lv_iload_n hx hb dX7_nextMatch_25 rfl (lv_at hl 1 rfl) ?_
      obtain ⟨vz2, hcz, hs⟩ := bd1_some hs
      have hPc : va_P D vwCl [((ad 4), .inr (3, [.ref (ad 1), .ref (ad 5), .ref (ad 6), .ref (ad 7), .ref (ad 8), .int (iI x_keywords_given), .int (iI x_keywords_alive)])), ((ad 1), .inr (2, [.int (iI x_folding_on)])), ((ad 5), .inl (cI, 1920, .inl (mI a_keywords_bytes))), ((ad 6), .inl (cI, 120, .inl (mI a_keywords_lengths))), ((ad 7), .inl (cI, 120, .inl (mI a_keywords_weights))), ((ad 8), .inl (cZ, 120, .inl (mI a_keywords_lives)))] s.heap := hP.sub [4, 1, 5, 6, 7, 8] rfl
      refine k_rV (As := [.int (iI pz1)]) (rest := []) (st1 := [.int (iI vz2)]) ⟨hx, hb, hml, hown, hts⟩ hK hPc (c_X3_lengthOf l D cI cZ cJ hcz) (cwV 1 hts gX7_nextMatch_X3_lengthOf rfl rfl rfl (by decide +kernel) ⟨Nat.le_of_ble_eq_true rfl, Nat.le_of_ble_eq_true rfl⟩) 0 rfl rfl rfl rfl hl.1 rfl (lv_room (Nat.le_of_ble_eq_true rfl)) dX7_nextMatch_26 ⟨Nat.zero_le _, Nat.zero_le _⟩ rfl ?_
      refine lv_istore_n (lv' := [(3, .int (iI vz2)), (0, .ref (ad 0)), (1, .int (iI pz1)), (2, .int (iI pz2))]) hx hb dX7_nextMatch_29 rfl hl (by decide) rfl (fun ls hl => ?_)
      refine lv_iload_n hx hb dX7_nextMatch_30 rfl (lv_at hl 3 rfl) ?_
      refine lv_istore (lv' := [(4, .int (iI pz2)), (3, .int (iI vz2)), (0, .ref (ad 0)), (1, .int (iI pz1)), (2, .int (iI pz2))]) hx hb dX7_nextMatch_31 hl (by decide) rfl (fun ls hl => ?_)
      exact Lz33 FU pz1 vz2 pz2 hs ls (lv_sub hl [2, 3, 1, 0] rfl)
/-! X7_measureDepths -/
set_option maxHeartbeats 4000000 in
set_option maxRecDepth 100000 in
theorem c_X7_measureDepths (l : Launch) (D : va_G) (cI cZ cJ : ClassId) {ad : Nat → Nat} {x_work : Int} {x_rebuilds : Int} {x_reported : Int} {x_folding_on : Int} {x_buffer_length : Int} {a_buffer_bytes : (Int → Int)} {x_keywords_given : Int} {x_keywords_alive : Int} {a_keywords_bytes : (Int → Int)} {a_keywords_lengths : (Int → Int)} {a_keywords_weights : (Int → Int)} {a_keywords_lives : (Int → Int)} {x_mainSet_count : Int} {a_mainSet_members : (Int → Int)} {x_removalSet_count : Int} {a_removalSet_members : (Int → Int)} {x_superstring_slots : Int} {x_superstring_built : Int} {b_superstring_sw : Bool} {a_superstring_starts : (Int → Int)} {a_superstring_lengths : (Int → Int)} {a_superstring_overlaps : (Int → Int)} {x_superstring_area_length : Int} {a_superstring_area_bytes : (Int → Int)} {x_superstring_spare_length : Int} {a_superstring_spare_bytes : (Int → Int)} {x_stream_length : Int} {a_stream_bytes : (Int → Int)} {a_matches_words : (Int → Int)} {x_reports_size : Int} {a_reports_positions : (Int → Int)} {a_reports_numbers : (Int → Int)} {x_chosen_size : Int} {a_chosen_positions : (Int → Int)} {a_chosen_numbers : (Int → Int)} {a_depths : (Int → Int)} {a_bestFrom : (Int → Int)} {y_a_depths : (Int → Int)} {sz : Nat} (hs : s_X7_measureDepths x_stream_length a_matches_words a_depths = some y_a_depths) : Met l yX7_measureDepths wsX7_measureDepths rm_X7_measureDepths (PW D vwCl [(cI, .int), (cZ, .boolean), (cJ, .long)] [.ref (ad 0)] (wK cI cZ cJ ad x_work x_rebuilds x_reported x_folding_on x_buffer_length a_buffer_bytes x_keywords_given x_keywords_alive a_keywords_bytes a_keywords_lengths a_keywords_weights a_keywords_lives x_mainSet_count a_mainSet_members x_removalSet_count a_removalSet_members x_superstring_slots x_superstring_built b_superstring_sw a_superstring_starts a_superstring_lengths a_superstring_overlaps x_superstring_area_length a_superstring_area_bytes x_superstring_spare_length a_superstring_spare_bytes x_stream_length a_stream_bytes a_matches_words x_reports_size a_reports_positions a_reports_numbers x_chosen_size a_chosen_positions a_chosen_numbers a_depths a_bestFrom) sz) (QW D vwCl none (wK cI cZ cJ ad x_work x_rebuilds x_reported x_folding_on x_buffer_length a_buffer_bytes x_keywords_given x_keywords_alive a_keywords_bytes a_keywords_lengths a_keywords_weights a_keywords_lives x_mainSet_count a_mainSet_members x_removalSet_count a_removalSet_members x_superstring_slots x_superstring_built b_superstring_sw a_superstring_starts a_superstring_lengths a_superstring_overlaps x_superstring_area_length a_superstring_area_bytes x_superstring_spare_length a_superstring_spare_bytes x_stream_length a_stream_bytes a_matches_words x_reports_size a_reports_positions a_reports_numbers x_chosen_size a_chosen_positions a_chosen_numbers y_a_depths a_bestFrom) (va_A (wK cI cZ cJ ad x_work x_rebuilds x_reported x_folding_on x_buffer_length a_buffer_bytes x_keywords_given x_keywords_alive a_keywords_bytes a_keywords_lengths a_keywords_weights a_keywords_lives x_mainSet_count a_mainSet_members x_removalSet_count a_removalSet_members x_superstring_slots x_superstring_built b_superstring_sw a_superstring_starts a_superstring_lengths a_superstring_overlaps x_superstring_area_length a_superstring_area_bytes x_superstring_spare_length a_superstring_spare_bytes x_stream_length a_stream_bytes a_matches_words x_reports_size a_reports_positions a_reports_numbers x_chosen_size a_chosen_positions a_chosen_numbers a_depths a_bestFrom) sz)) 0 0 (va_A (wK cI cZ cJ ad x_work x_rebuilds x_reported x_folding_on x_buffer_length a_buffer_bytes x_keywords_given x_keywords_alive a_keywords_bytes a_keywords_lengths a_keywords_weights a_keywords_lives x_mainSet_count a_mainSet_members x_removalSet_count a_removalSet_members x_superstring_slots x_superstring_built b_superstring_sw a_superstring_starts a_superstring_lengths a_superstring_overlaps x_superstring_area_length a_superstring_area_bytes x_superstring_spare_length a_superstring_spare_bytes x_stream_length a_stream_bytes a_matches_words x_reports_size a_reports_positions a_reports_numbers x_chosen_size a_chosen_positions a_chosen_numbers a_depths a_bestFrom) sz) := by
  refine Met.ofW (cc := cX7_measureDepths) (maxL := 3) (ret := none) (by decide) rfl ?_
  intro p e s m args below meth c s₁ B hml hv
  obtain ⟨hav, hsz, hP, hK, hD0⟩ := hv
  have hx := B.exec
  have hb := B.bytes
  have hr := B.returns
  have hts := atoms_spec (ws := wsX7_measureDepths) B.pre
  have hown : s.vm.findClass RX7 = some m.cls := findClass_of_methodNamed B.named
  have hlk := B.notSynchronized
  have hf51 : (Cond.fieldLink RX7 51 "KeywordMatcher" "stream" "LKeywordMatcher$ByteRow;").before args s = true := hts _ (List.mem_of_getElem? (i := 1) rfl)
  have hiX7 : ∀ w ∈ wsX70, w ∈ wsX7_measureDepths := fun w h => List.mem_cons_of_mem _ (List.mem_append_left _ (List.mem_append_left _ (List.mem_append_right _ h)))
  have hf89 : (Cond.fieldLink RX7 89 "KeywordMatcher$ByteRow" "length" "I").before args s = true := hts _ (List.mem_of_getElem? (i := 2) rfl)
  have hiX1 : ∀ w ∈ wsX10, w ∈ wsX7_measureDepths := fun w h => List.mem_cons_of_mem _ (List.mem_append_left _ (List.mem_append_right _ h))
  have hf57 : (Cond.fieldLink RX7 57 "KeywordMatcher" "matches" "LKeywordMatcher$MatchTable;").before args s = true := hts _ (List.mem_of_getElem? (i := 3) rfl)
  have hf71 : (Cond.fieldLink RX7 71 "KeywordMatcher" "depths" "[I").before args s = true := hts _ (List.mem_of_getElem? (i := 4) rfl)
  subst hsz
  have hD := hD0.self (sz := s.heap.size)
  generalize hAe : va_A (wK cI cZ cJ ad x_work x_rebuilds x_reported x_folding_on x_buffer_length a_buffer_bytes x_keywords_given x_keywords_alive a_keywords_bytes a_keywords_lengths a_keywords_weights a_keywords_lives x_mainSet_count a_mainSet_members x_removalSet_count a_removalSet_members x_superstring_slots x_superstring_built b_superstring_sw a_superstring_starts a_superstring_lengths a_superstring_overlaps x_superstring_area_length a_superstring_area_bytes x_superstring_spare_length a_superstring_spare_bytes x_stream_length a_stream_bytes a_matches_words x_reports_size a_reports_positions a_reports_numbers x_chosen_size a_chosen_positions a_chosen_numbers a_depths a_bestFrom) s.heap.size = Az at hD ⊢
  have hA : ∀ q : Nat, s.heap.size ≤ q → Az q := fun q h => by rw [← hAe]; exact Or.inr h
  clear hAe
  have hSz : va_S Az s.heap s.heap [] := va_S.rf
  obtain ⟨wz, hw1⟩ : ∃ z : va_W, z = (wK cI cZ cJ ad x_work x_rebuilds x_reported x_folding_on x_buffer_length a_buffer_bytes x_keywords_given x_keywords_alive a_keywords_bytes a_keywords_lengths a_keywords_weights a_keywords_lives x_mainSet_count a_mainSet_members x_removalSet_count a_removalSet_members x_superstring_slots x_superstring_built b_superstring_sw a_superstring_starts a_superstring_lengths a_superstring_overlaps x_superstring_area_length a_superstring_area_bytes x_superstring_spare_length a_superstring_spare_bytes x_stream_length a_stream_bytes a_matches_words x_reports_size a_reports_positions a_reports_numbers x_chosen_size a_chosen_positions a_chosen_numbers y_a_depths a_bestFrom) := ⟨_, rfl⟩
  rw [← hw1]
  have hl := lv_entry ([.ref (ad 0)]) (n := 3) (Nat.le_of_ble_eq_true rfl)
  rw [show entryFrame m args 3 = entryFrame m ([.ref (ad 0)] : List Value).toArray 3 from by rw [hav], lg_entry_eq]
  generalize (lg_sl ([.ref (ad 0)]) ++ List.replicate (3 - (lg_sl ([.ref (ad 0)])).length) Slot.unset).toArray = ls at hl ⊢
  have hl : lv_has ls 3 [(0, .ref (ad 0))] := hl
  unfold s_X7_measureDepths at hs
  have Lz4 : ∀ (fu : Nat) (a_depths : (Int → Int)) (l1 : Int) (l2 : Int) (y0 : (Int → Int)), s_X7_measureDepths_4 fu x_stream_length a_matches_words a_depths l1 l2 = some y0 → ∀ (Hz : Heap) (lz : List Loc), va_P D vwCl (wK cI cZ cJ ad x_work x_rebuilds x_reported x_folding_on x_buffer_length a_buffer_bytes x_keywords_given x_keywords_alive a_keywords_bytes a_keywords_lengths a_keywords_weights a_keywords_lives x_mainSet_count a_mainSet_members x_removalSet_count a_removalSet_members x_superstring_slots x_superstring_built b_superstring_sw a_superstring_starts a_superstring_lengths a_superstring_overlaps x_superstring_area_length a_superstring_area_bytes x_superstring_spare_length a_superstring_spare_bytes x_stream_length a_stream_bytes a_matches_words x_reports_size a_reports_positions a_reports_numbers x_chosen_size a_chosen_positions a_chosen_numbers a_depths a_bestFrom) Hz → va_D Az (wK cI cZ cJ ad x_work x_rebuilds x_reported x_folding_on x_buffer_length a_buffer_bytes x_keywords_given x_keywords_alive a_keywords_bytes a_keywords_lengths a_keywords_weights a_keywords_lives x_mainSet_count a_mainSet_members x_removalSet_count a_removalSet_members x_superstring_slots x_superstring_built b_superstring_sw a_superstring_starts a_superstring_lengths a_superstring_overlaps x_superstring_area_length a_superstring_area_bytes x_superstring_spare_length a_superstring_spare_bytes x_stream_length a_stream_bytes a_matches_words x_reports_size a_reports_positions a_reports_numbers x_chosen_size a_chosen_positions a_chosen_numbers a_depths a_bestFrom) → va_S Az s.heap Hz lz → ∀ ls : Array Slot, lv_has ls 3 [(0, .ref (ad 0)), (1, .int (iI l1)), (2, .int (iI l2))] → (∀ (Hz : Heap) (lz : List Loc), va_P D vwCl (wK cI cZ cJ ad x_work x_rebuilds x_reported x_folding_on x_buffer_length a_buffer_bytes x_keywords_given x_keywords_alive a_keywords_bytes a_keywords_lengths a_keywords_weights a_keywords_lives x_mainSet_count a_mainSet_members x_removalSet_count a_removalSet_members x_superstring_slots x_superstring_built b_superstring_sw a_superstring_starts a_superstring_lengths a_superstring_overlaps x_superstring_area_length a_superstring_area_bytes x_superstring_spare_length a_superstring_spare_bytes x_stream_length a_stream_bytes a_matches_words x_reports_size a_reports_positions a_reports_numbers x_chosen_size a_chosen_positions a_chosen_numbers y0 a_bestFrom) Hz → va_D Az (wK cI cZ cJ ad x_work x_rebuilds x_reported x_folding_on x_buffer_length a_buffer_bytes x_keywords_given x_keywords_alive a_keywords_bytes a_keywords_lengths a_keywords_weights a_keywords_lives x_mainSet_count a_mainSet_members x_removalSet_count a_removalSet_members x_superstring_slots x_superstring_built b_superstring_sw a_superstring_starts a_superstring_lengths a_superstring_overlaps x_superstring_area_length a_superstring_area_bytes x_superstring_spare_length a_superstring_spare_bytes x_stream_length a_stream_bytes a_matches_words x_reports_size a_reports_positions a_reports_numbers x_chosen_size a_chosen_positions a_chosen_numbers y0 a_bestFrom) → va_S Az s.heap Hz lz → ∀ ls : Array Slot, lv_has ls 3 [] → W p l e (headSpec wsX7_measureDepths rm_X7_measureDepths).room s m args below meth c Hz lz 0 0 (MQ below (QW D vwCl none wz Az) args s 0 0 Az) (F0 m 50 ls [])) → W p l e (headSpec wsX7_measureDepths rm_X7_measureDepths).room s m args below meth c Hz lz 0 0 (MQ below (QW D vwCl none wz Az) args s 0 0 Az) (F0 m 4 ls []) := by
    intro fu
    induction fu with
    | zero => intro a_depths l1 l2 y0 hs; cases hs
    | succ fu ih =>
      intro a_depths l1 l2 y0 hs Hz lz hP hD hSz ls hl kx
      rw [s_X7_measureDepths_4_s] at hs
      refine lv_iload_n hx hb dX7_measureDepths_4 rfl (lv_at hl 2 rfl) ?_
      refine lv_aload_n hx hb dX7_measureDepths_5 rfl (lv_at hl 0 rfl) ?_
      refine va_get (ci := 7) (v := .ref (ad 21)) (C := RX7) (T := TX7) (N := 15) hx hb hts hiX7 hown hK hP 0 rfl rfl 6 (by decide) hf51 (fun _ h9 => h9) rfl dX7_measureDepths_6 ?_
      refine va_get (ci := 1) (v := .int (iI x_stream_length)) (C := RX1) (T := TX1) (N := 2) hx hb hts hiX1 hown hK hP 21 rfl rfl 1 (by decide) hf89 (fun _ h9 => h9) rfl dX7_measureDepths_9 ?_
      refine k_icmp_ge (tgt := 50) hx hb hs dX7_measureDepths_12 (by decide) (fun hs => ?_) (fun hs => ?_)
      · refine lv_iload_n hx hb dX7_measureDepths_15 rfl (lv_at hl 1 rfl) ?_
        refine lv_aload_n hx hb dX7_measureDepths_16 rfl (lv_at hl 0 rfl) ?_
        refine va_get (ci := 7) (v := .ref (ad 23)) (C := RX7) (T := TX7) (N := 15) hx hb hts hiX7 hown hK hP 0 rfl rfl 7 (by decide) hf57 (fun _ h9 => h9) rfl dX7_measureDepths_17 ?_
        refine lv_iload_n hx hb dX7_measureDepths_20 rfl (lv_at hl 2 rfl) ?_
        obtain ⟨vz1, hcz, hs⟩ := bd1_some hs
        have hPc : va_P D vwCl [((ad 23), .inr (5, [.ref (ad 24)])), ((ad 24), .inl (cJ, 1200, .inr (.inl (mL a_matches_words))))] Hz := hP.sub [23, 24] rfl
        refine k_rV (As := [.int (iI l2)]) (rest := [.int (iI l1)]) (st1 := [.int (iI vz1), .int (iI l1)]) ⟨hx, hb, hml, hown, hts⟩ hK hPc (c_X5_countFrom l D cI cZ cJ hcz) (cwV 1 hts gX7_measureDepths_X5_countFrom rfl rfl rfl (by decide +kernel) ⟨Nat.le_of_ble_eq_true rfl, Nat.le_of_ble_eq_true rfl⟩) 0 rfl rfl rfl rfl hl.1 rfl (lv_room (Nat.le_of_ble_eq_true rfl)) dX7_measureDepths_21 ⟨Nat.zero_le _, Nat.zero_le _⟩ rfl ?_
        refine k_iadd hx hb dX7_measureDepths_24 ?_
        refine lv_istore_n (lv' := [(1, .int (iI (l1 + vz1))), (0, .ref (ad 0)), (2, .int (iI l2))]) hx hb dX7_measureDepths_25 rfl hl (by decide) rfl (fun ls hl => ?_)
        refine lv_aload_n hx hb dX7_measureDepths_26 rfl (lv_at hl 1 rfl) ?_
        refine va_get (ci := 7) (v := .ref (ad 31)) (C := RX7) (T := TX7) (N := 15) hx hb hts hiX7 hown hK hP 0 rfl rfl 10 (by decide) hf71 (fun _ h9 => h9) rfl dX7_measureDepths_27 ?_
        refine lv_iload_n hx hb dX7_measureDepths_30 rfl (lv_at hl 2 rfl) ?_
        refine lv_iload_n hx hb dX7_measureDepths_31 rfl (lv_at hl 0 rfl) ?_
        refine k_iast hx hb hK hP hD hSz 31 0 rfl rfl (Nat.le_of_ble_eq_true rfl) hs dX7_measureDepths_32 (fun Hz lz hP hD hSz hs => ?_)
        have hP : va_P D vwCl (wK cI cZ cJ ad x_work x_rebuilds x_reported x_folding_on x_buffer_length a_buffer_bytes x_keywords_given x_keywords_alive a_keywords_bytes a_keywords_lengths a_keywords_weights a_keywords_lives x_mainSet_count a_mainSet_members x_removalSet_count a_removalSet_members x_superstring_slots x_superstring_built b_superstring_sw a_superstring_starts a_superstring_lengths a_superstring_overlaps x_superstring_area_length a_superstring_area_bytes x_superstring_spare_length a_superstring_spare_bytes x_stream_length a_stream_bytes a_matches_words x_reports_size a_reports_positions a_reports_numbers x_chosen_size a_chosen_positions a_chosen_numbers (upA a_depths l2 (l1 + vz1)) a_bestFrom) Hz := hP
        have hD : va_D Az (wK cI cZ cJ ad x_work x_rebuilds x_reported x_folding_on x_buffer_length a_buffer_bytes x_keywords_given x_keywords_alive a_keywords_bytes a_keywords_lengths a_keywords_weights a_keywords_lives x_mainSet_count a_mainSet_members x_removalSet_count a_removalSet_members x_superstring_slots x_superstring_built b_superstring_sw a_superstring_starts a_superstring_lengths a_superstring_overlaps x_superstring_area_length a_superstring_area_bytes x_superstring_spare_length a_superstring_spare_bytes x_stream_length a_stream_bytes a_matches_words x_reports_size a_reports_positions a_reports_numbers x_chosen_size a_chosen_positions a_chosen_numbers (upA a_depths l2 (l1 + vz1)) a_bestFrom) := hD
        refine lv_iload_n hx hb dX7_measureDepths_33 rfl (lv_at hl 0 rfl) ?_
        refine lv_aload_n hx hb dX7_measureDepths_34 rfl (lv_at hl 1 rfl) ?_
        refine va_get (ci := 7) (v := .ref (ad 23)) (C := RX7) (T := TX7) (N := 15) hx hb hts hiX7 hown hK hP 0 rfl rfl 7 (by decide) hf57 (fun _ h9 => h9) rfl dX7_measureDepths_35 ?_
        refine lv_iload_n hx hb dX7_measureDepths_38 rfl (lv_at hl 2 rfl) ?_
        obtain ⟨vz2, hcz, hs⟩ := bd1_some hs
        have hPc : va_P D vwCl [((ad 23), .inr (5, [.ref (ad 24)])), ((ad 24), .inl (cJ, 1200, .inr (.inl (mL a_matches_words))))] Hz := hP.sub [23, 24] rfl
        refine k_rV (As := [.int (iI l2)]) (rest := [.int (iI (l1 + vz1))]) (st1 := [.int (iI vz2), .int (iI (l1 + vz1))]) ⟨hx, hb, hml, hown, hts⟩ hK hPc (c_X5_countTo l D cI cZ cJ hcz) (cwV 1 hts gX7_measureDepths_X5_countTo rfl rfl rfl (by decide +kernel) ⟨Nat.le_of_ble_eq_true rfl, Nat.le_of_ble_eq_true rfl⟩) 0 rfl rfl rfl rfl hl.1 rfl (lv_room (Nat.le_of_ble_eq_true rfl)) dX7_measureDepths_39 ⟨Nat.zero_le _, Nat.zero_le _⟩ rfl ?_
        refine k_isub hx hb dX7_measureDepths_42 ?_
        refine lv_istore_n (lv' := [(1, .int (iI ((l1 + vz1) - vz2))), (0, .ref (ad 0)), (2, .int (iI l2))]) hx hb dX7_measureDepths_43 rfl hl (by decide) rfl (fun ls hl => ?_)
        refine k_iinc (x := l2) (k := 2) (lv' := [(2, .int (iI (l2 + 1))), (1, .int (iI ((l1 + vz1) - vz2))), (0, .ref (ad 0))]) hx hb dX7_measureDepths_44 hl rfl (by decide) rfl (fun ls hl => ?_)
        refine lv_goto (tgt := 4) hx hb dX7_measureDepths_47 (by decide) ?_
        exact ih (upA a_depths l2 (l1 + vz1)) ((l1 + vz1) - vz2) (l2 + 1) y0 hs Hz lz hP hD hSz ls (lv_sub hl [2, 1, 0] rfl) kx
      · cases hs
        exact kx Hz lz hP hD hSz ls (lv_sub hl [] rfl)
  refine (?_ : ∀ (Hz : Heap) (lz : List Loc), va_P D vwCl (wK cI cZ cJ ad x_work x_rebuilds x_reported x_folding_on x_buffer_length a_buffer_bytes x_keywords_given x_keywords_alive a_keywords_bytes a_keywords_lengths a_keywords_weights a_keywords_lives x_mainSet_count a_mainSet_members x_removalSet_count a_removalSet_members x_superstring_slots x_superstring_built b_superstring_sw a_superstring_starts a_superstring_lengths a_superstring_overlaps x_superstring_area_length a_superstring_area_bytes x_superstring_spare_length a_superstring_spare_bytes x_stream_length a_stream_bytes a_matches_words x_reports_size a_reports_positions a_reports_numbers x_chosen_size a_chosen_positions a_chosen_numbers a_depths a_bestFrom) Hz → va_D Az (wK cI cZ cJ ad x_work x_rebuilds x_reported x_folding_on x_buffer_length a_buffer_bytes x_keywords_given x_keywords_alive a_keywords_bytes a_keywords_lengths a_keywords_weights a_keywords_lives x_mainSet_count a_mainSet_members x_removalSet_count a_removalSet_members x_superstring_slots x_superstring_built b_superstring_sw a_superstring_starts a_superstring_lengths a_superstring_overlaps x_superstring_area_length a_superstring_area_bytes x_superstring_spare_length a_superstring_spare_bytes x_stream_length a_stream_bytes a_matches_words x_reports_size a_reports_positions a_reports_numbers x_chosen_size a_chosen_positions a_chosen_numbers a_depths a_bestFrom) → va_S Az s.heap Hz lz → W p l e (headSpec wsX7_measureDepths rm_X7_measureDepths).room s m args below meth c Hz lz 0 0 (MQ below (QW D vwCl none wz Az) args s 0 0 Az) (F0 m 0 ls [])) s.heap [] hP hD hSz
  intro Hz lz hP hD hSz
  refine k_iconst (n := 0) hx hb dX7_measureDepths_0 ?_
  refine lv_istore_n (lv' := [(1, .int (iI 0)), (0, .ref (ad 0))]) hx hb dX7_measureDepths_1 rfl hl (by decide) rfl (fun ls hl => ?_)
  refine k_iconst (n := 0) hx hb dX7_measureDepths_2 ?_
  refine lv_istore_n (lv' := [(2, .int (iI 0)), (1, .int (iI 0)), (0, .ref (ad 0))]) hx hb dX7_measureDepths_3 rfl hl (by decide) rfl (fun ls hl => ?_)
  obtain ⟨ez3, hq, hs⟩ := bd1_some hs
  refine Lz4 FU a_depths 0 0 ez3 hq Hz lz hP hD hSz ls (lv_sub hl [2, 1, 0] rfl) ?_
  intro Hz lz hP hD hSz ls hl
  cases hs
  exact k_vret_w hx hb hr hlk (by rw [hw1]; exact hP) hSz dX7_measureDepths_50 rfl
/-! X7_overlappingPairs -/
set_option maxHeartbeats 4000000 in
set_option maxRecDepth 100000 in
theorem c_X7_overlappingPairs (l : Launch) (D : va_G) (cI cZ cJ : ClassId) {ad : Nat → Nat} {x_work : Int} {x_rebuilds : Int} {x_reported : Int} {x_folding_on : Int} {x_buffer_length : Int} {a_buffer_bytes : (Int → Int)} {x_keywords_given : Int} {x_keywords_alive : Int} {a_keywords_bytes : (Int → Int)} {a_keywords_lengths : (Int → Int)} {a_keywords_weights : (Int → Int)} {a_keywords_lives : (Int → Int)} {x_mainSet_count : Int} {a_mainSet_members : (Int → Int)} {x_removalSet_count : Int} {a_removalSet_members : (Int → Int)} {x_superstring_slots : Int} {x_superstring_built : Int} {b_superstring_sw : Bool} {a_superstring_starts : (Int → Int)} {a_superstring_lengths : (Int → Int)} {a_superstring_overlaps : (Int → Int)} {x_superstring_area_length : Int} {a_superstring_area_bytes : (Int → Int)} {x_superstring_spare_length : Int} {a_superstring_spare_bytes : (Int → Int)} {x_stream_length : Int} {a_stream_bytes : (Int → Int)} {a_matches_words : (Int → Int)} {x_reports_size : Int} {a_reports_positions : (Int → Int)} {a_reports_numbers : (Int → Int)} {x_chosen_size : Int} {a_chosen_positions : (Int → Int)} {a_chosen_numbers : (Int → Int)} {a_depths : (Int → Int)} {a_bestFrom : (Int → Int)} {r : Int} {y_a_depths : (Int → Int)} {sz : Nat} (hs : s_X7_overlappingPairs x_stream_length a_matches_words a_depths = some (r, y_a_depths)) : Met l yX7_overlappingPairs wsX7_overlappingPairs rm_X7_overlappingPairs (PW D vwCl [(cI, .int), (cZ, .boolean), (cJ, .long)] [.ref (ad 0)] (wK cI cZ cJ ad x_work x_rebuilds x_reported x_folding_on x_buffer_length a_buffer_bytes x_keywords_given x_keywords_alive a_keywords_bytes a_keywords_lengths a_keywords_weights a_keywords_lives x_mainSet_count a_mainSet_members x_removalSet_count a_removalSet_members x_superstring_slots x_superstring_built b_superstring_sw a_superstring_starts a_superstring_lengths a_superstring_overlaps x_superstring_area_length a_superstring_area_bytes x_superstring_spare_length a_superstring_spare_bytes x_stream_length a_stream_bytes a_matches_words x_reports_size a_reports_positions a_reports_numbers x_chosen_size a_chosen_positions a_chosen_numbers a_depths a_bestFrom) sz) (QW D vwCl (some (.int (iI r))) (wK cI cZ cJ ad x_work x_rebuilds x_reported x_folding_on x_buffer_length a_buffer_bytes x_keywords_given x_keywords_alive a_keywords_bytes a_keywords_lengths a_keywords_weights a_keywords_lives x_mainSet_count a_mainSet_members x_removalSet_count a_removalSet_members x_superstring_slots x_superstring_built b_superstring_sw a_superstring_starts a_superstring_lengths a_superstring_overlaps x_superstring_area_length a_superstring_area_bytes x_superstring_spare_length a_superstring_spare_bytes x_stream_length a_stream_bytes a_matches_words x_reports_size a_reports_positions a_reports_numbers x_chosen_size a_chosen_positions a_chosen_numbers y_a_depths a_bestFrom) (va_A (wK cI cZ cJ ad x_work x_rebuilds x_reported x_folding_on x_buffer_length a_buffer_bytes x_keywords_given x_keywords_alive a_keywords_bytes a_keywords_lengths a_keywords_weights a_keywords_lives x_mainSet_count a_mainSet_members x_removalSet_count a_removalSet_members x_superstring_slots x_superstring_built b_superstring_sw a_superstring_starts a_superstring_lengths a_superstring_overlaps x_superstring_area_length a_superstring_area_bytes x_superstring_spare_length a_superstring_spare_bytes x_stream_length a_stream_bytes a_matches_words x_reports_size a_reports_positions a_reports_numbers x_chosen_size a_chosen_positions a_chosen_numbers a_depths a_bestFrom) sz)) 0 0 (va_A (wK cI cZ cJ ad x_work x_rebuilds x_reported x_folding_on x_buffer_length a_buffer_bytes x_keywords_given x_keywords_alive a_keywords_bytes a_keywords_lengths a_keywords_weights a_keywords_lives x_mainSet_count a_mainSet_members x_removalSet_count a_removalSet_members x_superstring_slots x_superstring_built b_superstring_sw a_superstring_starts a_superstring_lengths a_superstring_overlaps x_superstring_area_length a_superstring_area_bytes x_superstring_spare_length a_superstring_spare_bytes x_stream_length a_stream_bytes a_matches_words x_reports_size a_reports_positions a_reports_numbers x_chosen_size a_chosen_positions a_chosen_numbers a_depths a_bestFrom) sz) := by
  refine Met.ofW (cc := cX7_overlappingPairs) (maxL := 5) (ret := (some .int)) (by decide) rfl ?_
  intro p e s m args below meth c s₁ B hml hv
  obtain ⟨hav, hsz, hP, hK, hD0⟩ := hv
  have hx := B.exec
  have hb := B.bytes
  have hr := B.returns
  have hts := atoms_spec (ws := wsX7_overlappingPairs) B.pre
  have hown : s.vm.findClass RX7 = some m.cls := findClass_of_methodNamed B.named
  have hlk := B.notSynchronized
  have hf51 : (Cond.fieldLink RX7 51 "KeywordMatcher" "stream" "LKeywordMatcher$ByteRow;").before args s = true := hts _ (List.mem_of_getElem? (i := 1) rfl)
  have hiX7 : ∀ w ∈ wsX70, w ∈ wsX7_overlappingPairs := fun w h => List.mem_cons_of_mem _ (List.mem_append_left _ (List.mem_append_left _ (List.mem_append_right _ h)))
  have hf89 : (Cond.fieldLink RX7 89 "KeywordMatcher$ByteRow" "length" "I").before args s = true := hts _ (List.mem_of_getElem? (i := 2) rfl)
  have hiX1 : ∀ w ∈ wsX10, w ∈ wsX7_overlappingPairs := fun w h => List.mem_cons_of_mem _ (List.mem_append_left _ (List.mem_append_right _ h))
  have hf57 : (Cond.fieldLink RX7 57 "KeywordMatcher" "matches" "LKeywordMatcher$MatchTable;").before args s = true := hts _ (List.mem_of_getElem? (i := 3) rfl)
  have hf71 : (Cond.fieldLink RX7 71 "KeywordMatcher" "depths" "[I").before args s = true := hts _ (List.mem_of_getElem? (i := 4) rfl)
  subst hsz
  have hD := hD0.self (sz := s.heap.size)
  generalize hAe : va_A (wK cI cZ cJ ad x_work x_rebuilds x_reported x_folding_on x_buffer_length a_buffer_bytes x_keywords_given x_keywords_alive a_keywords_bytes a_keywords_lengths a_keywords_weights a_keywords_lives x_mainSet_count a_mainSet_members x_removalSet_count a_removalSet_members x_superstring_slots x_superstring_built b_superstring_sw a_superstring_starts a_superstring_lengths a_superstring_overlaps x_superstring_area_length a_superstring_area_bytes x_superstring_spare_length a_superstring_spare_bytes x_stream_length a_stream_bytes a_matches_words x_reports_size a_reports_positions a_reports_numbers x_chosen_size a_chosen_positions a_chosen_numbers a_depths a_bestFrom) s.heap.size = Az at hD ⊢
  have hA : ∀ q : Nat, s.heap.size ≤ q → Az q := fun q h => by rw [← hAe]; exact Or.inr h
  clear hAe
  have hSz : va_S Az s.heap s.heap [] := va_S.rf
  obtain ⟨wz, hw1⟩ : ∃ z : va_W, z = (wK cI cZ cJ ad x_work x_rebuilds x_reported x_folding_on x_buffer_length a_buffer_bytes x_keywords_given x_keywords_alive a_keywords_bytes a_keywords_lengths a_keywords_weights a_keywords_lives x_mainSet_count a_mainSet_members x_removalSet_count a_removalSet_members x_superstring_slots x_superstring_built b_superstring_sw a_superstring_starts a_superstring_lengths a_superstring_overlaps x_superstring_area_length a_superstring_area_bytes x_superstring_spare_length a_superstring_spare_bytes x_stream_length a_stream_bytes a_matches_words x_reports_size a_reports_positions a_reports_numbers x_chosen_size a_chosen_positions a_chosen_numbers y_a_depths a_bestFrom) := ⟨_, rfl⟩
  rw [← hw1]
  have hl := lv_entry ([.ref (ad 0)]) (n := 5) (Nat.le_of_ble_eq_true rfl)
  rw [show entryFrame m args 5 = entryFrame m ([.ref (ad 0)] : List Value).toArray 5 from by rw [hav], lg_entry_eq]
  generalize (lg_sl ([.ref (ad 0)]) ++ List.replicate (5 - (lg_sl ([.ref (ad 0)])).length) Slot.unset).toArray = ls at hl ⊢
  have hl : lv_has ls 5 [(0, .ref (ad 0))] := hl
  unfold s_X7_overlappingPairs at hs
  have Lz8 : ∀ (fu : Nat) (a_depths : (Int → Int)) (l1 : Int) (l2 : Int) (y0 : Int), s_X7_overlappingPairs_8 fu x_stream_length a_matches_words a_depths l1 l2 = some y0 → ∀ (Hz : Heap) (lz : List Loc), va_P D vwCl (wK cI cZ cJ ad x_work x_rebuilds x_reported x_folding_on x_buffer_length a_buffer_bytes x_keywords_given x_keywords_alive a_keywords_bytes a_keywords_lengths a_keywords_weights a_keywords_lives x_mainSet_count a_mainSet_members x_removalSet_count a_removalSet_members x_superstring_slots x_superstring_built b_superstring_sw a_superstring_starts a_superstring_lengths a_superstring_overlaps x_superstring_area_length a_superstring_area_bytes x_superstring_spare_length a_superstring_spare_bytes x_stream_length a_stream_bytes a_matches_words x_reports_size a_reports_positions a_reports_numbers x_chosen_size a_chosen_positions a_chosen_numbers a_depths a_bestFrom) Hz → va_D Az (wK cI cZ cJ ad x_work x_rebuilds x_reported x_folding_on x_buffer_length a_buffer_bytes x_keywords_given x_keywords_alive a_keywords_bytes a_keywords_lengths a_keywords_weights a_keywords_lives x_mainSet_count a_mainSet_members x_removalSet_count a_removalSet_members x_superstring_slots x_superstring_built b_superstring_sw a_superstring_starts a_superstring_lengths a_superstring_overlaps x_superstring_area_length a_superstring_area_bytes x_superstring_spare_length a_superstring_spare_bytes x_stream_length a_stream_bytes a_matches_words x_reports_size a_reports_positions a_reports_numbers x_chosen_size a_chosen_positions a_chosen_numbers a_depths a_bestFrom) → va_S Az s.heap Hz lz → ∀ ls : Array Slot, lv_has ls 5 [(0, .ref (ad 0)), (1, .int (iI l1)), (2, .int (iI l2))] → (∀ (Hz : Heap) (lz : List Loc), va_P D vwCl (wK cI cZ cJ ad x_work x_rebuilds x_reported x_folding_on x_buffer_length a_buffer_bytes x_keywords_given x_keywords_alive a_keywords_bytes a_keywords_lengths a_keywords_weights a_keywords_lives x_mainSet_count a_mainSet_members x_removalSet_count a_removalSet_members x_superstring_slots x_superstring_built b_superstring_sw a_superstring_starts a_superstring_lengths a_superstring_overlaps x_superstring_area_length a_superstring_area_bytes x_superstring_spare_length a_superstring_spare_bytes x_stream_length a_stream_bytes a_matches_words x_reports_size a_reports_positions a_reports_numbers x_chosen_size a_chosen_positions a_chosen_numbers a_depths a_bestFrom) Hz → va_D Az (wK cI cZ cJ ad x_work x_rebuilds x_reported x_folding_on x_buffer_length a_buffer_bytes x_keywords_given x_keywords_alive a_keywords_bytes a_keywords_lengths a_keywords_weights a_keywords_lives x_mainSet_count a_mainSet_members x_removalSet_count a_removalSet_members x_superstring_slots x_superstring_built b_superstring_sw a_superstring_starts a_superstring_lengths a_superstring_overlaps x_superstring_area_length a_superstring_area_bytes x_superstring_spare_length a_superstring_spare_bytes x_stream_length a_stream_bytes a_matches_words x_reports_size a_reports_positions a_reports_numbers x_chosen_size a_chosen_positions a_chosen_numbers a_depths a_bestFrom) → va_S Az s.heap Hz lz → ∀ ls : Array Slot, lv_has ls 5 [(1, .int (iI y0))] → W p l e (headSpec wsX7_overlappingPairs rm_X7_overlappingPairs).room s m args below meth c Hz lz 0 0 (MQ below (QW D vwCl (some (.int (iI r))) wz Az) args s 0 0 Az) (F0 m 59 ls [])) → W p l e (headSpec wsX7_overlappingPairs rm_X7_overlappingPairs).room s m args below meth c Hz lz 0 0 (MQ below (QW D vwCl (some (.int (iI r))) wz Az) args s 0 0 Az) (F0 m 8 ls []) := by
    intro fu
    induction fu with
    | zero => intro a_depths l1 l2 y0 hs; cases hs
    | succ fu ih =>
      intro a_depths l1 l2 y0 hs Hz lz hP hD hSz ls hl kx
      rw [s_X7_overlappingPairs_8_s] at hs
      refine lv_iload_n hx hb dX7_overlappingPairs_8 rfl (lv_at hl 2 rfl) ?_
      refine lv_aload_n hx hb dX7_overlappingPairs_9 rfl (lv_at hl 0 rfl) ?_
      refine va_get (ci := 7) (v := .ref (ad 21)) (C := RX7) (T := TX7) (N := 15) hx hb hts hiX7 hown hK hP 0 rfl rfl 6 (by decide) hf51 (fun _ h9 => h9) rfl dX7_overlappingPairs_10 ?_
      refine va_get (ci := 1) (v := .int (iI x_stream_length)) (C := RX1) (T := TX1) (N := 2) hx hb hts hiX1 hown hK hP 21 rfl rfl 1 (by decide) hf89 (fun _ h9 => h9) rfl dX7_overlappingPairs_13 ?_
      refine k_icmp_ge (tgt := 59) hx hb hs dX7_overlappingPairs_16 (by decide) (fun hs => ?_) (fun hs => ?_)
      · refine lv_aload_n hx hb dX7_overlappingPairs_19 rfl (lv_at hl 0 rfl) ?_
        refine va_get (ci := 7) (v := .ref (ad 23)) (C := RX7) (T := TX7) (N := 15) hx hb hts hiX7 hown hK hP 0 rfl rfl 7 (by decide) hf57 (fun _ h9 => h9) rfl dX7_overlappingPairs_20 ?_
        refine lv_iload_n hx hb dX7_overlappingPairs_23 rfl (lv_at hl 2 rfl) ?_
        obtain ⟨vz2, hcz, hs⟩ := bd1_some hs
        have hPc : va_P D vwCl [((ad 23), .inr (5, [.ref (ad 24)])), ((ad 24), .inl (cJ, 1200, .inr (.inl (mL a_matches_words))))] Hz := hP.sub [23, 24] rfl
        refine k_rV (As := [.int (iI l2)]) (rest := []) (st1 := [.int (iI vz2)]) ⟨hx, hb, hml, hown, hts⟩ hK hPc (c_X5_countFrom l D cI cZ cJ hcz) (cwV 1 hts gX7_overlappingPairs_X5_countFrom rfl rfl rfl (by decide +kernel) ⟨Nat.le_of_ble_eq_true rfl, Nat.le_of_ble_eq_true rfl⟩) 0 rfl rfl rfl rfl hl.1 rfl (lv_room (Nat.le_of_ble_eq_true rfl)) dX7_overlappingPairs_24 ⟨Nat.zero_le _, Nat.zero_le _⟩ rfl ?_
        refine lv_istore_n (lv' := [(3, .int (iI vz2)), (0, .ref (ad 0)), (1, .int (iI l1)), (2, .int (iI l2))]) hx hb dX7_overlappingPairs_27 rfl hl (by decide) rfl (fun ls hl => ?_)
        refine lv_aload_n hx hb dX7_overlappingPairs_28 rfl (lv_at hl 1 rfl) ?_
        refine va_get (ci := 7) (v := .ref (ad 31)) (C := RX7) (T := TX7) (N := 15) hx hb hts hiX7 hown hK hP 0 rfl rfl 10 (by decide) hf71 (fun _ h9 => h9) rfl dX7_overlappingPairs_29 ?_
        refine lv_iload_n hx hb dX7_overlappingPairs_32 rfl (lv_at hl 3 rfl) ?_
        refine k_iald hx hb hK hP 31 0 rfl rfl (Nat.le_of_ble_eq_true rfl) hs dX7_overlappingPairs_33 (fun vz3 hs => ?_)
        refine lv_iload_n hx hb dX7_overlappingPairs_34 rfl (lv_at hl 0 rfl) ?_
        refine k_isub hx hb dX7_overlappingPairs_35 ?_
        refine lv_istore (lv' := [(4, .int (iI (vz3 - vz2))), (3, .int (iI vz2)), (0, .ref (ad 0)), (1, .int (iI l1)), (2, .int (iI l2))]) hx hb dX7_overlappingPairs_36 hl (by decide) rfl (fun ls hl => ?_)
        refine lv_iload_n hx hb dX7_overlappingPairs_38 rfl (lv_at hl 3 rfl) ?_
        refine lv_iload_n hx hb dX7_overlappingPairs_39 rfl (lv_at hl 1 rfl) ?_
        refine lv_iload hx hb dX7_overlappingPairs_40 (lv_at hl 0 rfl) ?_
        refine k_imul hx hb dX7_overlappingPairs_42 ?_
        refine lv_iload_n hx hb dX7_overlappingPairs_43 rfl (lv_at hl 1 rfl) ?_
        refine lv_iload_n hx hb dX7_overlappingPairs_44 rfl (lv_at hl 1 rfl) ?_
        refine k_iconst (n := 1) hx hb dX7_overlappingPairs_45 ?_
        refine k_isub hx hb dX7_overlappingPairs_46 ?_
        refine k_imul hx hb dX7_overlappingPairs_47 ?_
        refine k_iconst (n := 2) hx hb dX7_overlappingPairs_48 ?_
        refine k_idiv hx hb dX7_overlappingPairs_49 (by decide) ?_
        refine k_iadd hx hb dX7_overlappingPairs_50 ?_
        refine k_iadd hx hb dX7_overlappingPairs_51 ?_
        refine lv_istore_n (lv' := [(1, .int (iI (l1 + ((vz2 * (vz3 - vz2)) + (iDiv (vz2 * (vz2 - 1)) 2))))), (4, .int (iI (vz3 - vz2))), (3, .int (iI vz2)), (0, .ref (ad 0)), (2, .int (iI l2))]) hx hb dX7_overlappingPairs_52 rfl hl (by decide) rfl (fun ls hl => ?_)
        refine k_iinc (x := l2) (k := 4) (lv' := [(2, .int (iI (l2 + 1))), (1, .int (iI (l1 + ((vz2 * (vz3 - vz2)) + (iDiv (vz2 * (vz2 - 1)) 2))))), (4, .int (iI (vz3 - vz2))), (3, .int (iI vz2)), (0, .ref (ad 0))]) hx hb dX7_overlappingPairs_53 hl rfl (by decide) rfl (fun ls hl => ?_)
        refine lv_goto (tgt := 8) hx hb dX7_overlappingPairs_56 (by decide) ?_
        exact ih a_depths (l1 + ((vz2 * (vz3 - vz2)) + (iDiv (vz2 * (vz2 - 1)) 2))) (l2 + 1) y0 hs Hz lz hP hD hSz ls (lv_sub hl [4, 1, 0] rfl) kx
      · cases hs
        exact kx Hz lz hP hD hSz ls (lv_sub hl [1] rfl)
  refine (?_ : ∀ (Hz : Heap) (lz : List Loc), va_P D vwCl (wK cI cZ cJ ad x_work x_rebuilds x_reported x_folding_on x_buffer_length a_buffer_bytes x_keywords_given x_keywords_alive a_keywords_bytes a_keywords_lengths a_keywords_weights a_keywords_lives x_mainSet_count a_mainSet_members x_removalSet_count a_removalSet_members x_superstring_slots x_superstring_built b_superstring_sw a_superstring_starts a_superstring_lengths a_superstring_overlaps x_superstring_area_length a_superstring_area_bytes x_superstring_spare_length a_superstring_spare_bytes x_stream_length a_stream_bytes a_matches_words x_reports_size a_reports_positions a_reports_numbers x_chosen_size a_chosen_positions a_chosen_numbers a_depths a_bestFrom) Hz → va_D Az (wK cI cZ cJ ad x_work x_rebuilds x_reported x_folding_on x_buffer_length a_buffer_bytes x_keywords_given x_keywords_alive a_keywords_bytes a_keywords_lengths a_keywords_weights a_keywords_lives x_mainSet_count a_mainSet_members x_removalSet_count a_removalSet_members x_superstring_slots x_superstring_built b_superstring_sw a_superstring_starts a_superstring_lengths a_superstring_overlaps x_superstring_area_length a_superstring_area_bytes x_superstring_spare_length a_superstring_spare_bytes x_stream_length a_stream_bytes a_matches_words x_reports_size a_reports_positions a_reports_numbers x_chosen_size a_chosen_positions a_chosen_numbers a_depths a_bestFrom) → va_S Az s.heap Hz lz → W p l e (headSpec wsX7_overlappingPairs rm_X7_overlappingPairs).room s m args below meth c Hz lz 0 0 (MQ below (QW D vwCl (some (.int (iI r))) wz Az) args s 0 0 Az) (F0 m 0 ls [])) s.heap [] hP hD hSz
  intro Hz lz hP hD hSz
  refine lv_aload_n hx hb dX7_overlappingPairs_0 rfl (lv_at hl 0 rfl) ?_
  obtain ⟨vz1, hcz, hs⟩ := bd1_some hs
  refine k_wVs (As := []) (rest := []) (st1 := []) (w1 := (wK cI cZ cJ ad x_work x_rebuilds x_reported x_folding_on x_buffer_length a_buffer_bytes x_keywords_given x_keywords_alive a_keywords_bytes a_keywords_lengths a_keywords_weights a_keywords_lives x_mainSet_count a_mainSet_members x_removalSet_count a_removalSet_members x_superstring_slots x_superstring_built b_superstring_sw a_superstring_starts a_superstring_lengths a_superstring_overlaps x_superstring_area_length a_superstring_area_bytes x_superstring_spare_length a_superstring_spare_bytes x_stream_length a_stream_bytes a_matches_words x_reports_size a_reports_positions a_reports_numbers x_chosen_size a_chosen_positions a_chosen_numbers vz1 a_bestFrom)) ⟨hx, hb, hml, hown, hts⟩ hK hP hD hSz hA (c_X7_measureDepths l D cI cZ cJ hcz) (cwV 0 hts gX7_overlappingPairs_X7_measureDepths rfl rfl rfl (by decide +kernel) ⟨Nat.le_of_ble_eq_true rfl, Nat.le_of_ble_eq_true rfl⟩) 0 rfl rfl rfl rfl rfl hl.1 rfl (lv_room (Nat.le_of_ble_eq_true rfl)) dX7_overlappingPairs_1 ⟨Nat.zero_le _, Nat.zero_le _⟩ rfl (fun Hz lz hP hD hSz => ?_)
  have hP : va_P D vwCl (wK cI cZ cJ ad x_work x_rebuilds x_reported x_folding_on x_buffer_length a_buffer_bytes x_keywords_given x_keywords_alive a_keywords_bytes a_keywords_lengths a_keywords_weights a_keywords_lives x_mainSet_count a_mainSet_members x_removalSet_count a_removalSet_members x_superstring_slots x_superstring_built b_superstring_sw a_superstring_starts a_superstring_lengths a_superstring_overlaps x_superstring_area_length a_superstring_area_bytes x_superstring_spare_length a_superstring_spare_bytes x_stream_length a_stream_bytes a_matches_words x_reports_size a_reports_positions a_reports_numbers x_chosen_size a_chosen_positions a_chosen_numbers vz1 a_bestFrom) Hz := hP
  have hD : va_D Az (wK cI cZ cJ ad x_work x_rebuilds x_reported x_folding_on x_buffer_length a_buffer_bytes x_keywords_given x_keywords_alive a_keywords_bytes a_keywords_lengths a_keywords_weights a_keywords_lives x_mainSet_count a_mainSet_members x_removalSet_count a_removalSet_members x_superstring_slots x_superstring_built b_superstring_sw a_superstring_starts a_superstring_lengths a_superstring_overlaps x_superstring_area_length a_superstring_area_bytes x_superstring_spare_length a_superstring_spare_bytes x_stream_length a_stream_bytes a_matches_words x_reports_size a_reports_positions a_reports_numbers x_chosen_size a_chosen_positions a_chosen_numbers vz1 a_bestFrom) := hD
  refine k_iconst (n := 0) hx hb dX7_overlappingPairs_4 ?_
  refine lv_istore_n (lv' := [(1, .int (iI 0)), (0, .ref (ad 0))]) hx hb dX7_overlappingPairs_5 rfl hl (by decide) rfl (fun ls hl => ?_)
  refine k_iconst (n := 0) hx hb dX7_overlappingPairs_6 ?_
  refine lv_istore_n (lv' := [(2, .int (iI 0)), (1, .int (iI 0)), (0, .ref (ad 0))]) hx hb dX7_overlappingPairs_7 rfl hl (by decide) rfl (fun ls hl => ?_)
  obtain ⟨ez4, hq, hs⟩ := bd1_some hs
  refine Lz8 FU vz1 0 0 ez4 hq Hz lz hP hD hSz ls (lv_sub hl [2, 1, 0] rfl) ?_
  intro Hz lz hP hD hSz ls hl
  refine lv_iload_n hx hb dX7_overlappingPairs_59 rfl (lv_at hl 0 rfl) ?_
  cases hs
  exact k_iret_w hx hb hr hlk (by rw [hw1]; exact hP) hSz dX7_overlappingPairs_60 rfl
/-! X7_maximumDepth -/
set_option maxHeartbeats 4000000 in
set_option maxRecDepth 100000 in
theorem c_X7_maximumDepth (l : Launch) (D : va_G) (cI cZ cJ : ClassId) {ad : Nat → Nat} {x_work : Int} {x_rebuilds : Int} {x_reported : Int} {x_folding_on : Int} {x_buffer_length : Int} {a_buffer_bytes : (Int → Int)} {x_keywords_given : Int} {x_keywords_alive : Int} {a_keywords_bytes : (Int → Int)} {a_keywords_lengths : (Int → Int)} {a_keywords_weights : (Int → Int)} {a_keywords_lives : (Int → Int)} {x_mainSet_count : Int} {a_mainSet_members : (Int → Int)} {x_removalSet_count : Int} {a_removalSet_members : (Int → Int)} {x_superstring_slots : Int} {x_superstring_built : Int} {b_superstring_sw : Bool} {a_superstring_starts : (Int → Int)} {a_superstring_lengths : (Int → Int)} {a_superstring_overlaps : (Int → Int)} {x_superstring_area_length : Int} {a_superstring_area_bytes : (Int → Int)} {x_superstring_spare_length : Int} {a_superstring_spare_bytes : (Int → Int)} {x_stream_length : Int} {a_stream_bytes : (Int → Int)} {a_matches_words : (Int → Int)} {x_reports_size : Int} {a_reports_positions : (Int → Int)} {a_reports_numbers : (Int → Int)} {x_chosen_size : Int} {a_chosen_positions : (Int → Int)} {a_chosen_numbers : (Int → Int)} {a_depths : (Int → Int)} {a_bestFrom : (Int → Int)} {r : Int} {y_a_depths : (Int → Int)} {sz : Nat} (hs : s_X7_maximumDepth x_stream_length a_matches_words a_depths = some (r, y_a_depths)) : Met l yX7_maximumDepth wsX7_maximumDepth rm_X7_maximumDepth (PW D vwCl [(cI, .int), (cZ, .boolean), (cJ, .long)] [.ref (ad 0)] (wK cI cZ cJ ad x_work x_rebuilds x_reported x_folding_on x_buffer_length a_buffer_bytes x_keywords_given x_keywords_alive a_keywords_bytes a_keywords_lengths a_keywords_weights a_keywords_lives x_mainSet_count a_mainSet_members x_removalSet_count a_removalSet_members x_superstring_slots x_superstring_built b_superstring_sw a_superstring_starts a_superstring_lengths a_superstring_overlaps x_superstring_area_length a_superstring_area_bytes x_superstring_spare_length a_superstring_spare_bytes x_stream_length a_stream_bytes a_matches_words x_reports_size a_reports_positions a_reports_numbers x_chosen_size a_chosen_positions a_chosen_numbers a_depths a_bestFrom) sz) (QW D vwCl (some (.int (iI r))) (wK cI cZ cJ ad x_work x_rebuilds x_reported x_folding_on x_buffer_length a_buffer_bytes x_keywords_given x_keywords_alive a_keywords_bytes a_keywords_lengths a_keywords_weights a_keywords_lives x_mainSet_count a_mainSet_members x_removalSet_count a_removalSet_members x_superstring_slots x_superstring_built b_superstring_sw a_superstring_starts a_superstring_lengths a_superstring_overlaps x_superstring_area_length a_superstring_area_bytes x_superstring_spare_length a_superstring_spare_bytes x_stream_length a_stream_bytes a_matches_words x_reports_size a_reports_positions a_reports_numbers x_chosen_size a_chosen_positions a_chosen_numbers y_a_depths a_bestFrom) (va_A (wK cI cZ cJ ad x_work x_rebuilds x_reported x_folding_on x_buffer_length a_buffer_bytes x_keywords_given x_keywords_alive a_keywords_bytes a_keywords_lengths a_keywords_weights a_keywords_lives x_mainSet_count a_mainSet_members x_removalSet_count a_removalSet_members x_superstring_slots x_superstring_built b_superstring_sw a_superstring_starts a_superstring_lengths a_superstring_overlaps x_superstring_area_length a_superstring_area_bytes x_superstring_spare_length a_superstring_spare_bytes x_stream_length a_stream_bytes a_matches_words x_reports_size a_reports_positions a_reports_numbers x_chosen_size a_chosen_positions a_chosen_numbers a_depths a_bestFrom) sz)) 0 0 (va_A (wK cI cZ cJ ad x_work x_rebuilds x_reported x_folding_on x_buffer_length a_buffer_bytes x_keywords_given x_keywords_alive a_keywords_bytes a_keywords_lengths a_keywords_weights a_keywords_lives x_mainSet_count a_mainSet_members x_removalSet_count a_removalSet_members x_superstring_slots x_superstring_built b_superstring_sw a_superstring_starts a_superstring_lengths a_superstring_overlaps x_superstring_area_length a_superstring_area_bytes x_superstring_spare_length a_superstring_spare_bytes x_stream_length a_stream_bytes a_matches_words x_reports_size a_reports_positions a_reports_numbers x_chosen_size a_chosen_positions a_chosen_numbers a_depths a_bestFrom) sz) := by
  refine Met.ofW (cc := cX7_maximumDepth) (maxL := 3) (ret := (some .int)) (by decide) rfl ?_
  intro p e s m args below meth c s₁ B hml hv
  obtain ⟨hav, hsz, hP, hK, hD0⟩ := hv
  have hx := B.exec
  have hb := B.bytes
  have hr := B.returns
  have hts := atoms_spec (ws := wsX7_maximumDepth) B.pre
  have hown : s.vm.findClass RX7 = some m.cls := findClass_of_methodNamed B.named
  have hlk := B.notSynchronized
  have hf51 : (Cond.fieldLink RX7 51 "KeywordMatcher" "stream" "LKeywordMatcher$ByteRow;").before args s = true := hts _ (List.mem_of_getElem? (i := 1) rfl)
  have hiX7 : ∀ w ∈ wsX70, w ∈ wsX7_maximumDepth := fun w h => List.mem_cons_of_mem _ (List.mem_append_left _ (List.mem_append_left _ (List.mem_append_right _ h)))
  have hf89 : (Cond.fieldLink RX7 89 "KeywordMatcher$ByteRow" "length" "I").before args s = true := hts _ (List.mem_of_getElem? (i := 2) rfl)
  have hiX1 : ∀ w ∈ wsX10, w ∈ wsX7_maximumDepth := fun w h => List.mem_cons_of_mem _ (List.mem_append_left _ (List.mem_append_right _ h))
  have hf71 : (Cond.fieldLink RX7 71 "KeywordMatcher" "depths" "[I").before args s = true := hts _ (List.mem_of_getElem? (i := 3) rfl)
  have hm189 : (Cond.methodLink RX7 189 Lib.Math.max.name).before args s = true := hts _ (List.mem_of_getElem? (i := 4) rfl)
  have hst_max : (Cond.static Lib.Math.max.name).before args s = true := hts _ (List.mem_of_getElem? (i := 5) rfl)
  have hin_Math : (Cond.initialized "java/lang/Math").before args s = true := hts _ (List.mem_of_getElem? (i := 6) rfl)
  have hcd_max : (Cond.code Lib.Math.max.name Lib.Math.max.code 2 (some .int)).before args s = true := hts _ (List.mem_of_getElem? (i := 7) rfl)
  subst hsz
  have hD := hD0.self (sz := s.heap.size)
  generalize hAe : va_A (wK cI cZ cJ ad x_work x_rebuilds x_reported x_folding_on x_buffer_length a_buffer_bytes x_keywords_given x_keywords_alive a_keywords_bytes a_keywords_lengths a_keywords_weights a_keywords_lives x_mainSet_count a_mainSet_members x_removalSet_count a_removalSet_members x_superstring_slots x_superstring_built b_superstring_sw a_superstring_starts a_superstring_lengths a_superstring_overlaps x_superstring_area_length a_superstring_area_bytes x_superstring_spare_length a_superstring_spare_bytes x_stream_length a_stream_bytes a_matches_words x_reports_size a_reports_positions a_reports_numbers x_chosen_size a_chosen_positions a_chosen_numbers a_depths a_bestFrom) s.heap.size = Az at hD ⊢
  have hA : ∀ q : Nat, s.heap.size ≤ q → Az q := fun q h => by rw [← hAe]; exact Or.inr h
  clear hAe
  have hSz : va_S Az s.heap s.heap [] := va_S.rf
  obtain ⟨wz, hw1⟩ : ∃ z : va_W, z = (wK cI cZ cJ ad x_work x_rebuilds x_reported x_folding_on x_buffer_length a_buffer_bytes x_keywords_given x_keywords_alive a_keywords_bytes a_keywords_lengths a_keywords_weights a_keywords_lives x_mainSet_count a_mainSet_members x_removalSet_count a_removalSet_members x_superstring_slots x_superstring_built b_superstring_sw a_superstring_starts a_superstring_lengths a_superstring_overlaps x_superstring_area_length a_superstring_area_bytes x_superstring_spare_length a_superstring_spare_bytes x_stream_length a_stream_bytes a_matches_words x_reports_size a_reports_positions a_reports_numbers x_chosen_size a_chosen_positions a_chosen_numbers y_a_depths a_bestFrom) := ⟨_, rfl⟩
  rw [← hw1]
  have hl := lv_entry ([.ref (ad 0)]) (n := 3) (Nat.le_of_ble_eq_true rfl)
  rw [show entryFrame m args 3 = entryFrame m ([.ref (ad 0)] : List Value).toArray 3 from by rw [hav], lg_entry_eq]
  generalize (lg_sl ([.ref (ad 0)]) ++ List.replicate (3 - (lg_sl ([.ref (ad 0)])).length) Slot.unset).toArray = ls at hl ⊢
  have hl : lv_has ls 3 [(0, .ref (ad 0))] := hl
  unfold s_X7_maximumDepth at hs
  have Lz8 : ∀ (fu : Nat) (a_depths : (Int → Int)) (l1 : Int) (l2 : Int) (y0 : Int), s_X7_maximumDepth_8 fu x_stream_length a_depths l1 l2 = some y0 → ∀ (Hz : Heap) (lz : List Loc), va_P D vwCl (wK cI cZ cJ ad x_work x_rebuilds x_reported x_folding_on x_buffer_length a_buffer_bytes x_keywords_given x_keywords_alive a_keywords_bytes a_keywords_lengths a_keywords_weights a_keywords_lives x_mainSet_count a_mainSet_members x_removalSet_count a_removalSet_members x_superstring_slots x_superstring_built b_superstring_sw a_superstring_starts a_superstring_lengths a_superstring_overlaps x_superstring_area_length a_superstring_area_bytes x_superstring_spare_length a_superstring_spare_bytes x_stream_length a_stream_bytes a_matches_words x_reports_size a_reports_positions a_reports_numbers x_chosen_size a_chosen_positions a_chosen_numbers a_depths a_bestFrom) Hz → va_D Az (wK cI cZ cJ ad x_work x_rebuilds x_reported x_folding_on x_buffer_length a_buffer_bytes x_keywords_given x_keywords_alive a_keywords_bytes a_keywords_lengths a_keywords_weights a_keywords_lives x_mainSet_count a_mainSet_members x_removalSet_count a_removalSet_members x_superstring_slots x_superstring_built b_superstring_sw a_superstring_starts a_superstring_lengths a_superstring_overlaps x_superstring_area_length a_superstring_area_bytes x_superstring_spare_length a_superstring_spare_bytes x_stream_length a_stream_bytes a_matches_words x_reports_size a_reports_positions a_reports_numbers x_chosen_size a_chosen_positions a_chosen_numbers a_depths a_bestFrom) → va_S Az s.heap Hz lz → ∀ ls : Array Slot, lv_has ls 3 [(0, .ref (ad 0)), (1, .int (iI l1)), (2, .int (iI l2))] → (∀ (Hz : Heap) (lz : List Loc), va_P D vwCl (wK cI cZ cJ ad x_work x_rebuilds x_reported x_folding_on x_buffer_length a_buffer_bytes x_keywords_given x_keywords_alive a_keywords_bytes a_keywords_lengths a_keywords_weights a_keywords_lives x_mainSet_count a_mainSet_members x_removalSet_count a_removalSet_members x_superstring_slots x_superstring_built b_superstring_sw a_superstring_starts a_superstring_lengths a_superstring_overlaps x_superstring_area_length a_superstring_area_bytes x_superstring_spare_length a_superstring_spare_bytes x_stream_length a_stream_bytes a_matches_words x_reports_size a_reports_positions a_reports_numbers x_chosen_size a_chosen_positions a_chosen_numbers a_depths a_bestFrom) Hz → va_D Az (wK cI cZ cJ ad x_work x_rebuilds x_reported x_folding_on x_buffer_length a_buffer_bytes x_keywords_given x_keywords_alive a_keywords_bytes a_keywords_lengths a_keywords_weights a_keywords_lives x_mainSet_count a_mainSet_members x_removalSet_count a_removalSet_members x_superstring_slots x_superstring_built b_superstring_sw a_superstring_starts a_superstring_lengths a_superstring_overlaps x_superstring_area_length a_superstring_area_bytes x_superstring_spare_length a_superstring_spare_bytes x_stream_length a_stream_bytes a_matches_words x_reports_size a_reports_positions a_reports_numbers x_chosen_size a_chosen_positions a_chosen_numbers a_depths a_bestFrom) → va_S Az s.heap Hz lz → ∀ ls : Array Slot, lv_has ls 3 [(1, .int (iI y0))] → W p l e (headSpec wsX7_maximumDepth rm_X7_maximumDepth).room s m args below meth c Hz lz 0 0 (MQ below (QW D vwCl (some (.int (iI r))) wz Az) args s 0 0 Az) (F0 m 36 ls [])) → W p l e (headSpec wsX7_maximumDepth rm_X7_maximumDepth).room s m args below meth c Hz lz 0 0 (MQ below (QW D vwCl (some (.int (iI r))) wz Az) args s 0 0 Az) (F0 m 8 ls []) := by
    intro fu
    induction fu with
    | zero => intro a_depths l1 l2 y0 hs; cases hs
    | succ fu ih =>
      intro a_depths l1 l2 y0 hs Hz lz hP hD hSz ls hl kx
      rw [s_X7_maximumDepth_8_s] at hs
      refine lv_iload_n hx hb dX7_maximumDepth_8 rfl (lv_at hl 2 rfl) ?_
      refine lv_aload_n hx hb dX7_maximumDepth_9 rfl (lv_at hl 0 rfl) ?_
      refine va_get (ci := 7) (v := .ref (ad 21)) (C := RX7) (T := TX7) (N := 15) hx hb hts hiX7 hown hK hP 0 rfl rfl 6 (by decide) hf51 (fun _ h9 => h9) rfl dX7_maximumDepth_10 ?_
      refine va_get (ci := 1) (v := .int (iI x_stream_length)) (C := RX1) (T := TX1) (N := 2) hx hb hts hiX1 hown hK hP 21 rfl rfl 1 (by decide) hf89 (fun _ h9 => h9) rfl dX7_maximumDepth_13 ?_
      refine k_icmp_ge (tgt := 36) hx hb hs dX7_maximumDepth_16 (by decide) (fun hs => ?_) (fun hs => ?_)
      · refine lv_iload_n hx hb dX7_maximumDepth_19 rfl (lv_at hl 1 rfl) ?_
        refine lv_aload_n hx hb dX7_maximumDepth_20 rfl (lv_at hl 0 rfl) ?_
        refine va_get (ci := 7) (v := .ref (ad 31)) (C := RX7) (T := TX7) (N := 15) hx hb hts hiX7 hown hK hP 0 rfl rfl 10 (by decide) hf71 (fun _ h9 => h9) rfl dX7_maximumDepth_21 ?_
        refine lv_iload_n hx hb dX7_maximumDepth_24 rfl (lv_at hl 2 rfl) ?_
        refine k_iald hx hb hK hP 31 0 rfl rfl (Nat.le_of_ble_eq_true rfl) hs dX7_maximumDepth_25 (fun vz2 hs => ?_)
        refine k_mmax hx hb (hml.trans hl.1.symm) hown hm189 hst_max hin_Math hcd_max (Nat.le_of_ble_eq_true rfl) (Nat.le_of_ble_eq_true rfl) (Nat.zero_le _) (Nat.zero_le _) hs dX7_maximumDepth_26 (fun hs => ?_)
        refine lv_istore_n (lv' := [(1, .int (iI (iMax l1 vz2))), (0, .ref (ad 0)), (2, .int (iI l2))]) hx hb dX7_maximumDepth_29 rfl hl (by decide) rfl (fun ls hl => ?_)
        refine k_iinc (x := l2) (k := 2) (lv' := [(2, .int (iI (l2 + 1))), (1, .int (iI (iMax l1 vz2))), (0, .ref (ad 0))]) hx hb dX7_maximumDepth_30 hl rfl (by decide) rfl (fun ls hl => ?_)
        refine lv_goto (tgt := 8) hx hb dX7_maximumDepth_33 (by decide) ?_
        exact ih a_depths (iMax l1 vz2) (l2 + 1) y0 hs Hz lz hP hD hSz ls (lv_sub hl [2, 1, 0] rfl) kx
      · cases hs
        exact kx Hz lz hP hD hSz ls (lv_sub hl [1] rfl)
  refine (?_ : ∀ (Hz : Heap) (lz : List Loc), va_P D vwCl (wK cI cZ cJ ad x_work x_rebuilds x_reported x_folding_on x_buffer_length a_buffer_bytes x_keywords_given x_keywords_alive a_keywords_bytes a_keywords_lengths a_keywords_weights a_keywords_lives x_mainSet_count a_mainSet_members x_removalSet_count a_removalSet_members x_superstring_slots x_superstring_built b_superstring_sw a_superstring_starts a_superstring_lengths a_superstring_overlaps x_superstring_area_length a_superstring_area_bytes x_superstring_spare_length a_superstring_spare_bytes x_stream_length a_stream_bytes a_matches_words x_reports_size a_reports_positions a_reports_numbers x_chosen_size a_chosen_positions a_chosen_numbers a_depths a_bestFrom) Hz → va_D Az (wK cI cZ cJ ad x_work x_rebuilds x_reported x_folding_on x_buffer_length a_buffer_bytes x_keywords_given x_keywords_alive a_keywords_bytes a_keywords_lengths a_keywords_weights a_keywords_lives x_mainSet_count a_mainSet_members x_removalSet_count a_removalSet_members x_superstring_slots x_superstring_built b_superstring_sw a_superstring_starts a_superstring_lengths a_superstring_overlaps x_superstring_area_length a_superstring_area_bytes x_superstring_spare_length a_superstring_spare_bytes x_stream_length a_stream_bytes a_matches_words x_reports_size a_reports_positions a_reports_numbers x_chosen_size a_chosen_positions a_chosen_numbers a_depths a_bestFrom) → va_S Az s.heap Hz lz → W p l e (headSpec wsX7_maximumDepth rm_X7_maximumDepth).room s m args below meth c Hz lz 0 0 (MQ below (QW D vwCl (some (.int (iI r))) wz Az) args s 0 0 Az) (F0 m 0 ls [])) s.heap [] hP hD hSz
  intro Hz lz hP hD hSz
  refine lv_aload_n hx hb dX7_maximumDepth_0 rfl (lv_at hl 0 rfl) ?_
  obtain ⟨vz1, hcz, hs⟩ := bd1_some hs
  refine k_wVs (As := []) (rest := []) (st1 := []) (w1 := (wK cI cZ cJ ad x_work x_rebuilds x_reported x_folding_on x_buffer_length a_buffer_bytes x_keywords_given x_keywords_alive a_keywords_bytes a_keywords_lengths a_keywords_weights a_keywords_lives x_mainSet_count a_mainSet_members x_removalSet_count a_removalSet_members x_superstring_slots x_superstring_built b_superstring_sw a_superstring_starts a_superstring_lengths a_superstring_overlaps x_superstring_area_length a_superstring_area_bytes x_superstring_spare_length a_superstring_spare_bytes x_stream_length a_stream_bytes a_matches_words x_reports_size a_reports_positions a_reports_numbers x_chosen_size a_chosen_positions a_chosen_numbers vz1 a_bestFrom)) ⟨hx, hb, hml, hown, hts⟩ hK hP hD hSz hA (c_X7_measureDepths l D cI cZ cJ hcz) (cwV 0 hts gX7_maximumDepth_X7_measureDepths rfl rfl rfl (by decide +kernel) ⟨Nat.le_of_ble_eq_true rfl, Nat.le_of_ble_eq_true rfl⟩) 0 rfl rfl rfl rfl rfl hl.1 rfl (lv_room (Nat.le_of_ble_eq_true rfl)) dX7_maximumDepth_1 ⟨Nat.zero_le _, Nat.zero_le _⟩ rfl (fun Hz lz hP hD hSz => ?_)
  have hP : va_P D vwCl (wK cI cZ cJ ad x_work x_rebuilds x_reported x_folding_on x_buffer_length a_buffer_bytes x_keywords_given x_keywords_alive a_keywords_bytes a_keywords_lengths a_keywords_weights a_keywords_lives x_mainSet_count a_mainSet_members x_removalSet_count a_removalSet_members x_superstring_slots x_superstring_built b_superstring_sw a_superstring_starts a_superstring_lengths a_superstring_overlaps x_superstring_area_length a_superstring_area_bytes x_superstring_spare_length a_superstring_spare_bytes x_stream_length a_stream_bytes a_matches_words x_reports_size a_reports_positions a_reports_numbers x_chosen_size a_chosen_positions a_chosen_numbers vz1 a_bestFrom) Hz := hP
  have hD : va_D Az (wK cI cZ cJ ad x_work x_rebuilds x_reported x_folding_on x_buffer_length a_buffer_bytes x_keywords_given x_keywords_alive a_keywords_bytes a_keywords_lengths a_keywords_weights a_keywords_lives x_mainSet_count a_mainSet_members x_removalSet_count a_removalSet_members x_superstring_slots x_superstring_built b_superstring_sw a_superstring_starts a_superstring_lengths a_superstring_overlaps x_superstring_area_length a_superstring_area_bytes x_superstring_spare_length a_superstring_spare_bytes x_stream_length a_stream_bytes a_matches_words x_reports_size a_reports_positions a_reports_numbers x_chosen_size a_chosen_positions a_chosen_numbers vz1 a_bestFrom) := hD
  refine k_iconst (n := 0) hx hb dX7_maximumDepth_4 ?_
  refine lv_istore_n (lv' := [(1, .int (iI 0)), (0, .ref (ad 0))]) hx hb dX7_maximumDepth_5 rfl hl (by decide) rfl (fun ls hl => ?_)
  refine k_iconst (n := 0) hx hb dX7_maximumDepth_6 ?_
  refine lv_istore_n (lv' := [(2, .int (iI 0)), (1, .int (iI 0)), (0, .ref (ad 0))]) hx hb dX7_maximumDepth_7 rfl hl (by decide) rfl (fun ls hl => ?_)
  obtain ⟨ez3, hq, hs⟩ := bd1_some hs
  refine Lz8 FU vz1 0 0 ez3 hq Hz lz hP hD hSz ls (lv_sub hl [2, 1, 0] rfl) ?_
  intro Hz lz hP hD hSz ls hl
  refine lv_iload_n hx hb dX7_maximumDepth_36 rfl (lv_at hl 0 rfl) ?_
  cases hs
  exact k_iret_w hx hb hr hlk (by rw [hw1]; exact hP) hSz dX7_maximumDepth_37 rfl
/-! X7_containedFrom -/
set_option maxHeartbeats 4000000 in
set_option maxRecDepth 100000 in
theorem c_X7_containedFrom (l : Launch) (D : va_G) (cI cZ cJ : ClassId) {ad : Nat → Nat} {x_work : Int} {x_rebuilds : Int} {x_reported : Int} {x_folding_on : Int} {x_buffer_length : Int} {a_buffer_bytes : (Int → Int)} {x_keywords_given : Int} {x_keywords_alive : Int} {a_keywords_bytes : (Int → Int)} {a_keywords_lengths : (Int → Int)} {a_keywords_weights : (Int → Int)} {a_keywords_lives : (Int → Int)} {x_mainSet_count : Int} {a_mainSet_members : (Int → Int)} {x_removalSet_count : Int} {a_removalSet_members : (Int → Int)} {x_superstring_slots : Int} {x_superstring_built : Int} {b_superstring_sw : Bool} {a_superstring_starts : (Int → Int)} {a_superstring_lengths : (Int → Int)} {a_superstring_overlaps : (Int → Int)} {x_superstring_area_length : Int} {a_superstring_area_bytes : (Int → Int)} {x_superstring_spare_length : Int} {a_superstring_spare_bytes : (Int → Int)} {x_stream_length : Int} {a_stream_bytes : (Int → Int)} {a_matches_words : (Int → Int)} {x_reports_size : Int} {a_reports_positions : (Int → Int)} {a_reports_numbers : (Int → Int)} {x_chosen_size : Int} {a_chosen_positions : (Int → Int)} {a_chosen_numbers : (Int → Int)} {a_depths : (Int → Int)} {a_bestFrom : (Int → Int)} {pz1 : Int} {pz2 : Int} {r : Int} (hs : s_X7_containedFrom a_matches_words pz1 pz2 = some r) : Met l yX7_containedFrom wsX7_containedFrom rm_X7_containedFrom (PR D vwCl [(cI, .int), (cZ, .boolean), (cJ, .long)] [.ref (ad 0), .int (iI pz1), .int (iI pz2)] (wK cI cZ cJ ad x_work x_rebuilds x_reported x_folding_on x_buffer_length a_buffer_bytes x_keywords_given x_keywords_alive a_keywords_bytes a_keywords_lengths a_keywords_weights a_keywords_lives x_mainSet_count a_mainSet_members x_removalSet_count a_removalSet_members x_superstring_slots x_superstring_built b_superstring_sw a_superstring_starts a_superstring_lengths a_superstring_overlaps x_superstring_area_length a_superstring_area_bytes x_superstring_spare_length a_superstring_spare_bytes x_stream_length a_stream_bytes a_matches_words x_reports_size a_reports_positions a_reports_numbers x_chosen_size a_chosen_positions a_chosen_numbers a_depths a_bestFrom)) (QR (some (.int (iI r)))) 0 0 (fun _ => False) := by
  refine Met.ofW (cc := cX7_containedFrom) (maxL := 7) (ret := (some .int)) (by decide) rfl ?_
  intro p e s m args below meth c s₁ B hml hv
  obtain ⟨hav, hP, hK⟩ := hv
  have hx := B.exec
  have hb := B.bytes
  have hr := B.returns
  have hts := atoms_spec (ws := wsX7_containedFrom) B.pre
  have hown : s.vm.findClass RX7 = some m.cls := findClass_of_methodNamed B.named
  have hlk := B.notSynchronized
  have hf57 : (Cond.fieldLink RX7 57 "KeywordMatcher" "matches" "LKeywordMatcher$MatchTable;").before args s = true := hts _ (List.mem_of_getElem? (i := 1) rfl)
  have hiX7 : ∀ w ∈ wsX70, w ∈ wsX7_containedFrom := fun w h => List.mem_cons_of_mem _ (List.mem_append_left _ (List.mem_append_right _ h))
  have hl := lv_entry ([.ref (ad 0), .int (iI pz1), .int (iI pz2)]) (n := 7) (Nat.le_of_ble_eq_true rfl)
  rw [show entryFrame m args 7 = entryFrame m ([.ref (ad 0), .int (iI pz1), .int (iI pz2)] : List Value).toArray 7 from by rw [hav], lg_entry_eq]
  generalize (lg_sl ([.ref (ad 0), .int (iI pz1), .int (iI pz2)]) ++ List.replicate (7 - (lg_sl ([.ref (ad 0), .int (iI pz1), .int (iI pz2)])).length) Slot.unset).toArray = ls at hl ⊢
  have hl : lv_has ls 7 [(0, .ref (ad 0)), (1, .int (iI pz1)), (2, .int (iI pz2))] := hl
  unfold s_X7_containedFrom at hs
  have Lz15 : ∀ (fu : Nat) (l1 : Int) (l2 : Int) (l3 : Int) (l4 : Int) (l5 : Int) (y0 : Int), s_X7_containedFrom_15 fu a_matches_words l1 l2 l3 l4 l5 = some y0 → ∀ ls : Array Slot, lv_has ls 7 [(0, .ref (ad 0)), (1, .int (iI l1)), (2, .int (iI l2)), (3, .int (iI l3)), (4, .int (iI l4)), (5, .int (iI l5))] → (∀ ls : Array Slot, lv_has ls 7 [(4, .int (iI y0))] → W p l e (headSpec wsX7_containedFrom rm_X7_containedFrom).room s m args below meth c s.heap [] 0 0 (MQ below (QR (some (.int (iI r)))) args s 0 0 (fun _ => False)) (F0 m 72 ls [])) → W p l e (headSpec wsX7_containedFrom rm_X7_containedFrom).room s m args below meth c s.heap [] 0 0 (MQ below (QR (some (.int (iI r)))) args s 0 0 (fun _ => False)) (F0 m 15 ls []) := by
    intro fu
    induction fu with
    | zero => intro l1 l2 l3 l4 l5 y0 hs; cases hs
    | succ fu ih =>
      intro l1 l2 l3 l4 l5 y0 hs ls hl kx
      rw [s_X7_containedFrom_15_s] at hs
      refine lv_iload hx hb dX7_containedFrom_15 (lv_at hl 5 rfl) ?_
      refine lv_iload_n hx hb dX7_containedFrom_17 rfl (lv_at hl 3 rfl) ?_
      refine k_icmp_gt (tgt := 72) hx hb hs dX7_containedFrom_18 (by decide) (fun hs => ?_) (fun hs => ?_)
      · cases hs
        exact kx ls (lv_sub hl [4] rfl)
      · refine lv_iload hx hb dX7_containedFrom_21 (lv_at hl 5 rfl) ?_
        refine lv_iload_n hx hb dX7_containedFrom_23 rfl (lv_at hl 3 rfl) ?_
        refine k_icmp_lt (tgt := 37) hx hb hs dX7_containedFrom_24 (by decide) (fun hs => ?_) (fun hs => ?_)
        · refine k_iconst (n := 1) hx hb dX7_containedFrom_37 ?_
          refine lv_goto (tgt := 42) hx hb dX7_containedFrom_38 (by decide) ?_
          refine lv_istore (lv' := [(6, .int (iI 1)), (0, .ref (ad 0)), (1, .int (iI l1)), (2, .int (iI l2)), (3, .int (iI l3)), (4, .int (iI l4)), (5, .int (iI l5))]) hx hb dX7_containedFrom_42 hl (by decide) rfl (fun ls hl => ?_)
          refine lv_iload hx hb dX7_containedFrom_44 (lv_at hl 0 rfl) ?_
          refine k_if_eq (tgt := 66) hx hb hs dX7_containedFrom_46 (by decide) (fun hs => ?_) (fun hs => ?_)
          · refine k_iinc (x := l5) (k := 6) (lv' := [(5, .int (iI (l5 + 1))), (6, .int (iI 1)), (0, .ref (ad 0)), (1, .int (iI l1)), (2, .int (iI l2)), (3, .int (iI l3)), (4, .int (iI l4))]) hx hb dX7_containedFrom_66 hl rfl (by decide) rfl (fun ls hl => ?_)
            refine lv_goto (tgt := 15) hx hb dX7_containedFrom_69 (by decide) ?_
            exact ih l1 l2 l3 l4 (l5 + 1) y0 hs ls (lv_sub hl [2, 3, 4, 5, 6, 0] rfl) kx
          · refine lv_aload_n hx hb dX7_containedFrom_49 rfl (lv_at hl 1 rfl) ?_
            refine va_get (ci := 7) (v := .ref (ad 23)) (C := RX7) (T := TX7) (N := 15) hx hb hts hiX7 hown hK hP 0 rfl rfl 7 (by decide) hf57 (fun _ h9 => h9) rfl dX7_containedFrom_50 ?_
            refine lv_iload_n hx hb dX7_containedFrom_53 rfl (lv_at hl 2 rfl) ?_
            refine lv_iload hx hb dX7_containedFrom_54 (lv_at hl 6 rfl) ?_
            obtain ⟨vz2, hcz, hs⟩ := bd1_some hs
            have hPc : va_P D vwCl [((ad 23), .inr (5, [.ref (ad 24)])), ((ad 24), .inl (cJ, 1200, .inr (.inl (mL a_matches_words))))] s.heap := hP.sub [23, 24] rfl
            refine k_rV (As := [.int (iI l1), .int (iI l5)]) (rest := []) (st1 := [.int (iI vz2)]) ⟨hx, hb, hml, hown, hts⟩ hK hPc (c_X5_at l D cI cZ cJ hcz) (cwV 2 hts gX7_containedFrom_X5_at rfl rfl rfl (by decide +kernel) ⟨Nat.le_of_ble_eq_true rfl, Nat.le_of_ble_eq_true rfl⟩) 0 rfl rfl rfl rfl hl.1 rfl (lv_room (Nat.le_of_ble_eq_true rfl)) dX7_containedFrom_56 ⟨Nat.zero_le _, Nat.zero_le _⟩ rfl ?_
            refine k_iconst (n := (-1)) hx hb dX7_containedFrom_59 ?_
            refine k_icmp_eq (tgt := 66) hx hb hs dX7_containedFrom_60 (by decide) (fun hs => ?_) (fun hs => ?_)
            · refine k_iinc (x := l5) (k := 6) (lv' := [(5, .int (iI (l5 + 1))), (6, .int (iI 1)), (0, .ref (ad 0)), (1, .int (iI l1)), (2, .int (iI l2)), (3, .int (iI l3)), (4, .int (iI l4))]) hx hb dX7_containedFrom_66 hl rfl (by decide) rfl (fun ls hl => ?_)
              refine lv_goto (tgt := 15) hx hb dX7_containedFrom_69 (by decide) ?_
              exact ih l1 l2 l3 l4 (l5 + 1) y0 hs ls (lv_sub hl [2, 3, 4, 5, 6, 0] rfl) kx
            · refine k_iinc (x := l4) (k := 5) (lv' := [(4, .int (iI (l4 + 1))), (6, .int (iI 1)), (0, .ref (ad 0)), (1, .int (iI l1)), (2, .int (iI l2)), (3, .int (iI l3)), (5, .int (iI l5))]) hx hb dX7_containedFrom_63 hl rfl (by decide) rfl (fun ls hl => ?_)
              refine k_iinc (x := l5) (k := 6) (lv' := [(5, .int (iI (l5 + 1))), (4, .int (iI (l4 + 1))), (6, .int (iI 1)), (0, .ref (ad 0)), (1, .int (iI l1)), (2, .int (iI l2)), (3, .int (iI l3))]) hx hb dX7_containedFrom_66 hl rfl (by decide) rfl (fun ls hl => ?_)
              refine lv_goto (tgt := 15) hx hb dX7_containedFrom_69 (by decide) ?_
              exact ih l1 l2 l3 (l4 + 1) (l5 + 1) y0 hs ls (lv_sub hl [3, 4, 5, 6, 1, 0] rfl) kx
        · refine lv_iload_n hx hb dX7_containedFrom_27 rfl (lv_at hl 1 rfl) ?_
          refine lv_iload hx hb dX7_containedFrom_28 (lv_at hl 5 rfl) ?_
          refine k_iadd hx hb dX7_containedFrom_30 ?_
          refine k_iconst (n := 1) hx hb dX7_containedFrom_31 ?_
          refine k_isub hx hb dX7_containedFrom_32 ?_
          refine lv_iload_n hx hb dX7_containedFrom_33 rfl (lv_at hl 2 rfl) ?_
          refine k_icmp_gt (tgt := 41) hx hb hs dX7_containedFrom_34 (by decide) (fun hs => ?_) (fun hs => ?_)
          · refine k_iconst (n := 0) hx hb dX7_containedFrom_41 ?_
            refine lv_istore (lv' := [(6, .int (iI 0)), (0, .ref (ad 0)), (1, .int (iI l1)), (2, .int (iI l2)), (3, .int (iI l3)), (4, .int (iI l4)), (5, .int (iI l5))]) hx hb dX7_containedFrom_42 hl (by decide) rfl (fun ls hl => ?_)
            refine lv_iload hx hb dX7_containedFrom_44 (lv_at hl 0 rfl) ?_
            refine k_if_eq (tgt := 66) hx hb hs dX7_containedFrom_46 (by decide) (fun hs => ?_) (fun hs => ?_)
            · refine k_iinc (x := l5) (k := 6) (lv' := [(5, .int (iI (l5 + 1))), (6, .int (iI 0)), (0, .ref (ad 0)), (1, .int (iI l1)), (2, .int (iI l2)), (3, .int (iI l3)), (4, .int (iI l4))]) hx hb dX7_containedFrom_66 hl rfl (by decide) rfl (fun ls hl => ?_)
              refine lv_goto (tgt := 15) hx hb dX7_containedFrom_69 (by decide) ?_
              exact ih l1 l2 l3 l4 (l5 + 1) y0 hs ls (lv_sub hl [2, 3, 4, 5, 6, 0] rfl) kx
            · refine lv_aload_n hx hb dX7_containedFrom_49 rfl (lv_at hl 1 rfl) ?_
              refine va_get (ci := 7) (v := .ref (ad 23)) (C := RX7) (T := TX7) (N := 15) hx hb hts hiX7 hown hK hP 0 rfl rfl 7 (by decide) hf57 (fun _ h9 => h9) rfl dX7_containedFrom_50 ?_
              refine lv_iload_n hx hb dX7_containedFrom_53 rfl (lv_at hl 2 rfl) ?_
              refine lv_iload hx hb dX7_containedFrom_54 (lv_at hl 6 rfl) ?_
              obtain ⟨vz3, hcz, hs⟩ := bd1_some hs
              have hPc : va_P D vwCl [((ad 23), .inr (5, [.ref (ad 24)])), ((ad 24), .inl (cJ, 1200, .inr (.inl (mL a_matches_words))))] s.heap := hP.sub [23, 24] rfl
              refine k_rV (As := [.int (iI l1), .int (iI l5)]) (rest := []) (st1 := [.int (iI vz3)]) ⟨hx, hb, hml, hown, hts⟩ hK hPc (c_X5_at l D cI cZ cJ hcz) (cwV 2 hts gX7_containedFrom_X5_at rfl rfl rfl (by decide +kernel) ⟨Nat.le_of_ble_eq_true rfl, Nat.le_of_ble_eq_true rfl⟩) 0 rfl rfl rfl rfl hl.1 rfl (lv_room (Nat.le_of_ble_eq_true rfl)) dX7_containedFrom_56 ⟨Nat.zero_le _, Nat.zero_le _⟩ rfl ?_
              refine k_iconst (n := (-1)) hx hb dX7_containedFrom_59 ?_
              refine k_icmp_eq (tgt := 66) hx hb hs dX7_containedFrom_60 (by decide) (fun hs => ?_) (fun hs => ?_)
              · refine k_iinc (x := l5) (k := 6) (lv' := [(5, .int (iI (l5 + 1))), (6, .int (iI 0)), (0, .ref (ad 0)), (1, .int (iI l1)), (2, .int (iI l2)), (3, .int (iI l3)), (4, .int (iI l4))]) hx hb dX7_containedFrom_66 hl rfl (by decide) rfl (fun ls hl => ?_)
                refine lv_goto (tgt := 15) hx hb dX7_containedFrom_69 (by decide) ?_
                exact ih l1 l2 l3 l4 (l5 + 1) y0 hs ls (lv_sub hl [2, 3, 4, 5, 6, 0] rfl) kx
              · refine k_iinc (x := l4) (k := 5) (lv' := [(4, .int (iI (l4 + 1))), (6, .int (iI 0)), (0, .ref (ad 0)), (1, .int (iI l1)), (2, .int (iI l2)), (3, .int (iI l3)), (5, .int (iI l5))]) hx hb dX7_containedFrom_63 hl rfl (by decide) rfl (fun ls hl => ?_)
                refine k_iinc (x := l5) (k := 6) (lv' := [(5, .int (iI (l5 + 1))), (4, .int (iI (l4 + 1))), (6, .int (iI 0)), (0, .ref (ad 0)), (1, .int (iI l1)), (2, .int (iI l2)), (3, .int (iI l3))]) hx hb dX7_containedFrom_66 hl rfl (by decide) rfl (fun ls hl => ?_)
                refine lv_goto (tgt := 15) hx hb dX7_containedFrom_69 (by decide) ?_
                exact ih l1 l2 l3 (l4 + 1) (l5 + 1) y0 hs ls (lv_sub hl [3, 4, 5, 6, 1, 0] rfl) kx
          · refine k_iconst (n := 1) hx hb dX7_containedFrom_37 ?_
            refine lv_goto (tgt := 42) hx hb dX7_containedFrom_38 (by decide) ?_
            refine lv_istore (lv' := [(6, .int (iI 1)), (0, .ref (ad 0)), (1, .int (iI l1)), (2, .int (iI l2)), (3, .int (iI l3)), (4, .int (iI l4)), (5, .int (iI l5))]) hx hb dX7_containedFrom_42 hl (by decide) rfl (fun ls hl => ?_)
            refine lv_iload hx hb dX7_containedFrom_44 (lv_at hl 0 rfl) ?_
            refine k_if_eq (tgt := 66) hx hb hs dX7_containedFrom_46 (by decide) (fun hs => ?_) (fun hs => ?_)
            · refine k_iinc (x := l5) (k := 6) (lv' := [(5, .int (iI (l5 + 1))), (6, .int (iI 1)), (0, .ref (ad 0)), (1, .int (iI l1)), (2, .int (iI l2)), (3, .int (iI l3)), (4, .int (iI l4))]) hx hb dX7_containedFrom_66 hl rfl (by decide) rfl (fun ls hl => ?_)
              refine lv_goto (tgt := 15) hx hb dX7_containedFrom_69 (by decide) ?_
              exact ih l1 l2 l3 l4 (l5 + 1) y0 hs ls (lv_sub hl [2, 3, 4, 5, 6, 0] rfl) kx
            · refine lv_aload_n hx hb dX7_containedFrom_49 rfl (lv_at hl 1 rfl) ?_
              refine va_get (ci := 7) (v := .ref (ad 23)) (C := RX7) (T := TX7) (N := 15) hx hb hts hiX7 hown hK hP 0 rfl rfl 7 (by decide) hf57 (fun _ h9 => h9) rfl dX7_containedFrom_50 ?_
              refine lv_iload_n hx hb dX7_containedFrom_53 rfl (lv_at hl 2 rfl) ?_
              refine lv_iload hx hb dX7_containedFrom_54 (lv_at hl 6 rfl) ?_
              obtain ⟨vz4, hcz, hs⟩ := bd1_some hs
              have hPc : va_P D vwCl [((ad 23), .inr (5, [.ref (ad 24)])), ((ad 24), .inl (cJ, 1200, .inr (.inl (mL a_matches_words))))] s.heap := hP.sub [23, 24] rfl
              refine k_rV (As := [.int (iI l1), .int (iI l5)]) (rest := []) (st1 := [.int (iI vz4)]) ⟨hx, hb, hml, hown, hts⟩ hK hPc (c_X5_at l D cI cZ cJ hcz) (cwV 2 hts gX7_containedFrom_X5_at rfl rfl rfl (by decide +kernel) ⟨Nat.le_of_ble_eq_true rfl, Nat.le_of_ble_eq_true rfl⟩) 0 rfl rfl rfl rfl hl.1 rfl (lv_room (Nat.le_of_ble_eq_true rfl)) dX7_containedFrom_56 ⟨Nat.zero_le _, Nat.zero_le _⟩ rfl ?_
              refine k_iconst (n := (-1)) hx hb dX7_containedFrom_59 ?_
              refine k_icmp_eq (tgt := 66) hx hb hs dX7_containedFrom_60 (by decide) (fun hs => ?_) (fun hs => ?_)
              · refine k_iinc (x := l5) (k := 6) (lv' := [(5, .int (iI (l5 + 1))), (6, .int (iI 1)), (0, .ref (ad 0)), (1, .int (iI l1)), (2, .int (iI l2)), (3, .int (iI l3)), (4, .int (iI l4))]) hx hb dX7_containedFrom_66 hl rfl (by decide) rfl (fun ls hl => ?_)
                refine lv_goto (tgt := 15) hx hb dX7_containedFrom_69 (by decide) ?_
                exact ih l1 l2 l3 l4 (l5 + 1) y0 hs ls (lv_sub hl [2, 3, 4, 5, 6, 0] rfl) kx
              · refine k_iinc (x := l4) (k := 5) (lv' := [(4, .int (iI (l4 + 1))), (6, .int (iI 1)), (0, .ref (ad 0)), (1, .int (iI l1)), (2, .int (iI l2)), (3, .int (iI l3)), (5, .int (iI l5))]) hx hb dX7_containedFrom_63 hl rfl (by decide) rfl (fun ls hl => ?_)
                refine k_iinc (x := l5) (k := 6) (lv' := [(5, .int (iI (l5 + 1))), (4, .int (iI (l4 + 1))), (6, .int (iI 1)), (0, .ref (ad 0)), (1, .int (iI l1)), (2, .int (iI l2)), (3, .int (iI l3))]) hx hb dX7_containedFrom_66 hl rfl (by decide) rfl (fun ls hl => ?_)
                refine lv_goto (tgt := 15) hx hb dX7_containedFrom_69 (by decide) ?_
                exact ih l1 l2 l3 (l4 + 1) (l5 + 1) y0 hs ls (lv_sub hl [3, 4, 5, 6, 1, 0] rfl) kx
  refine lv_aload_n hx hb dX7_containedFrom_0 rfl (lv_at hl 0 rfl) ?_
  refine va_get (ci := 7) (v := .ref (ad 23)) (C := RX7) (T := TX7) (N := 15) hx hb hts hiX7 hown hK hP 0 rfl rfl 7 (by decide) hf57 (fun _ h9 => h9) rfl dX7_containedFrom_1 ?_
  refine lv_iload_n hx hb dX7_containedFrom_4 rfl (lv_at hl 1 rfl) ?_
  obtain ⟨vz1, hcz, hs⟩ := bd1_some hs
  have hPc : va_P D vwCl [((ad 23), .inr (5, [.ref (ad 24)])), ((ad 24), .inl (cJ, 1200, .inr (.inl (mL a_matches_words))))] s.heap := hP.sub [23, 24] rfl
  refine k_rV (As := [.int (iI pz1)]) (rest := []) (st1 := [.int (iI vz1)]) ⟨hx, hb, hml, hown, hts⟩ hK hPc (c_X5_longestFrom l D cI cZ cJ hcz) (cwV 1 hts gX7_containedFrom_X5_longestFrom rfl rfl rfl (by decide +kernel) ⟨Nat.le_of_ble_eq_true rfl, Nat.le_of_ble_eq_true rfl⟩) 0 rfl rfl rfl rfl hl.1 rfl (lv_room (Nat.le_of_ble_eq_true rfl)) dX7_containedFrom_5 ⟨Nat.zero_le _, Nat.zero_le _⟩ rfl ?_
  refine lv_istore_n (lv' := [(3, .int (iI vz1)), (0, .ref (ad 0)), (1, .int (iI pz1)), (2, .int (iI pz2))]) hx hb dX7_containedFrom_8 rfl hl (by decide) rfl (fun ls hl => ?_)
  refine k_iconst (n := 0) hx hb dX7_containedFrom_9 ?_
  refine lv_istore (lv' := [(4, .int (iI 0)), (3, .int (iI vz1)), (0, .ref (ad 0)), (1, .int (iI pz1)), (2, .int (iI pz2))]) hx hb dX7_containedFrom_10 hl (by decide) rfl (fun ls hl => ?_)
  refine k_iconst (n := 1) hx hb dX7_containedFrom_12 ?_
  refine lv_istore (lv' := [(5, .int (iI 1)), (4, .int (iI 0)), (3, .int (iI vz1)), (0, .ref (ad 0)), (1, .int (iI pz1)), (2, .int (iI pz2))]) hx hb dX7_containedFrom_13 hl (by decide) rfl (fun ls hl => ?_)
  obtain ⟨ez5, hq, hs⟩ := bd1_some hs
  refine Lz15 FU pz1 pz2 vz1 0 1 ez5 hq ls (lv_sub hl [3, 4, 5, 2, 1, 0] rfl) ?_
  intro ls hl
  refine lv_iload hx hb dX7_containedFrom_72 (lv_at hl 0 rfl) ?_
  cases hs
  exact k_iret_r hx hb hr hlk rfl dX7_containedFrom_74 rfl
/-! X7_containedMatches -/
set_option maxHeartbeats 4000000 in
set_option maxRecDepth 100000 in
theorem c_X7_containedMatches (l : Launch) (D : va_G) (cI cZ cJ : ClassId) {ad : Nat → Nat} {x_work : Int} {x_rebuilds : Int} {x_reported : Int} {x_folding_on : Int} {x_buffer_length : Int} {a_buffer_bytes : (Int → Int)} {x_keywords_given : Int} {x_keywords_alive : Int} {a_keywords_bytes : (Int → Int)} {a_keywords_lengths : (Int → Int)} {a_keywords_weights : (Int → Int)} {a_keywords_lives : (Int → Int)} {x_mainSet_count : Int} {a_mainSet_members : (Int → Int)} {x_removalSet_count : Int} {a_removalSet_members : (Int → Int)} {x_superstring_slots : Int} {x_superstring_built : Int} {b_superstring_sw : Bool} {a_superstring_starts : (Int → Int)} {a_superstring_lengths : (Int → Int)} {a_superstring_overlaps : (Int → Int)} {x_superstring_area_length : Int} {a_superstring_area_bytes : (Int → Int)} {x_superstring_spare_length : Int} {a_superstring_spare_bytes : (Int → Int)} {x_stream_length : Int} {a_stream_bytes : (Int → Int)} {a_matches_words : (Int → Int)} {x_reports_size : Int} {a_reports_positions : (Int → Int)} {a_reports_numbers : (Int → Int)} {x_chosen_size : Int} {a_chosen_positions : (Int → Int)} {a_chosen_numbers : (Int → Int)} {a_depths : (Int → Int)} {a_bestFrom : (Int → Int)} {r : Int} (hs : s_X7_containedMatches x_stream_length a_matches_words = some r) : Met l yX7_containedMatches wsX7_containedMatches rm_X7_containedMatches (PR D vwCl [(cI, .int), (cZ, .boolean), (cJ, .long)] [.ref (ad 0)] (wK cI cZ cJ ad x_work x_rebuilds x_reported x_folding_on x_buffer_length a_buffer_bytes x_keywords_given x_keywords_alive a_keywords_bytes a_keywords_lengths a_keywords_weights a_keywords_lives x_mainSet_count a_mainSet_members x_removalSet_count a_removalSet_members x_superstring_slots x_superstring_built b_superstring_sw a_superstring_starts a_superstring_lengths a_superstring_overlaps x_superstring_area_length a_superstring_area_bytes x_superstring_spare_length a_superstring_spare_bytes x_stream_length a_stream_bytes a_matches_words x_reports_size a_reports_positions a_reports_numbers x_chosen_size a_chosen_positions a_chosen_numbers a_depths a_bestFrom)) (QR (some (.int (iI r)))) 0 0 (fun _ => False) := by
  refine Met.ofW (cc := cX7_containedMatches) (maxL := 4) (ret := (some .int)) (by decide) rfl ?_
  intro p e s m args below meth c s₁ B hml hv
  obtain ⟨hav, hP, hK⟩ := hv
  have hx := B.exec
  have hb := B.bytes
  have hr := B.returns
  have hts := atoms_spec (ws := wsX7_containedMatches) B.pre
  have hown : s.vm.findClass RX7 = some m.cls := findClass_of_methodNamed B.named
  have hlk := B.notSynchronized
  have hf51 : (Cond.fieldLink RX7 51 "KeywordMatcher" "stream" "LKeywordMatcher$ByteRow;").before args s = true := hts _ (List.mem_of_getElem? (i := 1) rfl)
  have hiX7 : ∀ w ∈ wsX70, w ∈ wsX7_containedMatches := fun w h => List.mem_cons_of_mem _ (List.mem_append_left _ (List.mem_append_left _ (List.mem_append_right _ h)))
  have hf89 : (Cond.fieldLink RX7 89 "KeywordMatcher$ByteRow" "length" "I").before args s = true := hts _ (List.mem_of_getElem? (i := 2) rfl)
  have hiX1 : ∀ w ∈ wsX10, w ∈ wsX7_containedMatches := fun w h => List.mem_cons_of_mem _ (List.mem_append_left _ (List.mem_append_right _ h))
  have hf57 : (Cond.fieldLink RX7 57 "KeywordMatcher" "matches" "LKeywordMatcher$MatchTable;").before args s = true := hts _ (List.mem_of_getElem? (i := 3) rfl)
  have hm189 : (Cond.methodLink RX7 189 Lib.Math.max.name).before args s = true := hts _ (List.mem_of_getElem? (i := 4) rfl)
  have hst_max : (Cond.static Lib.Math.max.name).before args s = true := hts _ (List.mem_of_getElem? (i := 5) rfl)
  have hin_Math : (Cond.initialized "java/lang/Math").before args s = true := hts _ (List.mem_of_getElem? (i := 6) rfl)
  have hcd_max : (Cond.code Lib.Math.max.name Lib.Math.max.code 2 (some .int)).before args s = true := hts _ (List.mem_of_getElem? (i := 7) rfl)
  have hl := lv_entry ([.ref (ad 0)]) (n := 4) (Nat.le_of_ble_eq_true rfl)
  rw [show entryFrame m args 4 = entryFrame m ([.ref (ad 0)] : List Value).toArray 4 from by rw [hav], lg_entry_eq]
  generalize (lg_sl ([.ref (ad 0)]) ++ List.replicate (4 - (lg_sl ([.ref (ad 0)])).length) Slot.unset).toArray = ls at hl ⊢
  have hl : lv_has ls 4 [(0, .ref (ad 0))] := hl
  unfold s_X7_containedMatches at hs
  have Lz6 : ∀ (fu : Nat) (l1 : Int) (l2 : Int) (l3 : Int) (y0 : Int), s_X7_containedMatches_6 fu x_stream_length a_matches_words l1 l2 l3 = some y0 → ∀ ls : Array Slot, lv_has ls 4 [(0, .ref (ad 0)), (1, .int (iI l1)), (2, .int (iI l2)), (3, .int (iI l3))] → (∀ ls : Array Slot, lv_has ls 4 [(1, .int (iI y0))] → W p l e (headSpec wsX7_containedMatches rm_X7_containedMatches).room s m args below meth c s.heap [] 0 0 (MQ below (QR (some (.int (iI r)))) args s 0 0 (fun _ => False)) (F0 m 49 ls [])) → W p l e (headSpec wsX7_containedMatches rm_X7_containedMatches).room s m args below meth c s.heap [] 0 0 (MQ below (QR (some (.int (iI r)))) args s 0 0 (fun _ => False)) (F0 m 6 ls []) := by
    intro fu
    induction fu with
    | zero => intro l1 l2 l3 y0 hs; cases hs
    | succ fu ih =>
      intro l1 l2 l3 y0 hs ls hl kx
      rw [s_X7_containedMatches_6_s] at hs
      refine lv_iload_n hx hb dX7_containedMatches_6 rfl (lv_at hl 3 rfl) ?_
      refine lv_aload_n hx hb dX7_containedMatches_7 rfl (lv_at hl 0 rfl) ?_
      refine va_get (ci := 7) (v := .ref (ad 21)) (C := RX7) (T := TX7) (N := 15) hx hb hts hiX7 hown hK hP 0 rfl rfl 6 (by decide) hf51 (fun _ h9 => h9) rfl dX7_containedMatches_8 ?_
      refine va_get (ci := 1) (v := .int (iI x_stream_length)) (C := RX1) (T := TX1) (N := 2) hx hb hts hiX1 hown hK hP 21 rfl rfl 1 (by decide) hf89 (fun _ h9 => h9) rfl dX7_containedMatches_11 ?_
      refine k_icmp_ge (tgt := 49) hx hb hs dX7_containedMatches_14 (by decide) (fun hs => ?_) (fun hs => ?_)
      · refine lv_iload_n hx hb dX7_containedMatches_17 rfl (lv_at hl 1 rfl) ?_
        refine lv_aload_n hx hb dX7_containedMatches_18 rfl (lv_at hl 0 rfl) ?_
        refine lv_iload_n hx hb dX7_containedMatches_19 rfl (lv_at hl 3 rfl) ?_
        refine lv_iload_n hx hb dX7_containedMatches_20 rfl (lv_at hl 2 rfl) ?_
        obtain ⟨vz1, hcz, hs⟩ := bd1_some hs
        refine k_rV (As := [.int (iI l3), .int (iI l2)]) (rest := [.int (iI l1)]) (st1 := [.int (iI vz1), .int (iI l1)]) ⟨hx, hb, hml, hown, hts⟩ hK hP (c_X7_containedFrom l D cI cZ cJ hcz) (cwV 2 hts gX7_containedMatches_X7_containedFrom rfl rfl rfl (by decide +kernel) ⟨Nat.le_of_ble_eq_true rfl, Nat.le_of_ble_eq_true rfl⟩) 0 rfl rfl rfl rfl hl.1 rfl (lv_room (Nat.le_of_ble_eq_true rfl)) dX7_containedMatches_21 ⟨Nat.zero_le _, Nat.zero_le _⟩ rfl ?_
        refine k_iadd hx hb dX7_containedMatches_24 ?_
        refine lv_istore_n (lv' := [(1, .int (iI (l1 + vz1))), (0, .ref (ad 0)), (2, .int (iI l2)), (3, .int (iI l3))]) hx hb dX7_containedMatches_25 rfl hl (by decide) rfl (fun ls hl => ?_)
        refine lv_iload_n hx hb dX7_containedMatches_26 rfl (lv_at hl 2 rfl) ?_
        refine lv_iload_n hx hb dX7_containedMatches_27 rfl (lv_at hl 3 rfl) ?_
        refine lv_aload_n hx hb dX7_containedMatches_28 rfl (lv_at hl 1 rfl) ?_
        refine va_get (ci := 7) (v := .ref (ad 23)) (C := RX7) (T := TX7) (N := 15) hx hb hts hiX7 hown hK hP 0 rfl rfl 7 (by decide) hf57 (fun _ h9 => h9) rfl dX7_containedMatches_29 ?_
        refine lv_iload_n hx hb dX7_containedMatches_32 rfl (lv_at hl 3 rfl) ?_
        obtain ⟨vz2, hcz, hs⟩ := bd1_some hs
        have hPc : va_P D vwCl [((ad 23), .inr (5, [.ref (ad 24)])), ((ad 24), .inl (cJ, 1200, .inr (.inl (mL a_matches_words))))] s.heap := hP.sub [23, 24] rfl
        refine k_rV (As := [.int (iI l3)]) (rest := [.int (iI l3), .int (iI l2)]) (st1 := [.int (iI vz2), .int (iI l3), .int (iI l2)]) ⟨hx, hb, hml, hown, hts⟩ hK hPc (c_X5_longestFrom l D cI cZ cJ hcz) (cwV 1 hts gX7_containedMatches_X5_longestFrom rfl rfl rfl (by decide +kernel) ⟨Nat.le_of_ble_eq_true rfl, Nat.le_of_ble_eq_true rfl⟩) 0 rfl rfl rfl rfl hl.1 rfl (lv_room (Nat.le_of_ble_eq_true rfl)) dX7_containedMatches_33 ⟨Nat.zero_le _, Nat.zero_le _⟩ rfl ?_
        refine k_iadd hx hb dX7_containedMatches_36 ?_
        refine k_iconst (n := 1) hx hb dX7_containedMatches_37 ?_
        refine k_isub hx hb dX7_containedMatches_38 ?_
        refine k_mmax hx hb (hml.trans hl.1.symm) hown hm189 hst_max hin_Math hcd_max (Nat.le_of_ble_eq_true rfl) (Nat.le_of_ble_eq_true rfl) (Nat.zero_le _) (Nat.zero_le _) hs dX7_containedMatches_39 (fun hs => ?_)
        refine lv_istore_n (lv' := [(2, .int (iI (iMax l2 ((l3 + vz2) - 1)))), (1, .int (iI (l1 + vz1))), (0, .ref (ad 0)), (3, .int (iI l3))]) hx hb dX7_containedMatches_42 rfl hl (by decide) rfl (fun ls hl => ?_)
        refine k_iinc (x := l3) (k := 3) (lv' := [(3, .int (iI (l3 + 1))), (2, .int (iI (iMax l2 ((l3 + vz2) - 1)))), (1, .int (iI (l1 + vz1))), (0, .ref (ad 0))]) hx hb dX7_containedMatches_43 hl rfl (by decide) rfl (fun ls hl => ?_)
        refine lv_goto (tgt := 6) hx hb dX7_containedMatches_46 (by decide) ?_
        exact ih (l1 + vz1) (iMax l2 ((l3 + vz2) - 1)) (l3 + 1) y0 hs ls (lv_sub hl [3, 2, 1, 0] rfl) kx
      · cases hs
        exact kx ls (lv_sub hl [1] rfl)
  refine k_iconst (n := 0) hx hb dX7_containedMatches_0 ?_
  refine lv_istore_n (lv' := [(1, .int (iI 0)), (0, .ref (ad 0))]) hx hb dX7_containedMatches_1 rfl hl (by decide) rfl (fun ls hl => ?_)
  refine k_iconst (n := (-1)) hx hb dX7_containedMatches_2 ?_
  refine lv_istore_n (lv' := [(2, .int (iI (-1))), (1, .int (iI 0)), (0, .ref (ad 0))]) hx hb dX7_containedMatches_3 rfl hl (by decide) rfl (fun ls hl => ?_)
  refine k_iconst (n := 0) hx hb dX7_containedMatches_4 ?_
  refine lv_istore_n (lv' := [(3, .int (iI 0)), (2, .int (iI (-1))), (1, .int (iI 0)), (0, .ref (ad 0))]) hx hb dX7_containedMatches_5 rfl hl (by decide) rfl (fun ls hl => ?_)
  obtain ⟨ez3, hq, hs⟩ := bd1_some hs
  refine Lz6 FU 0 (-1) 0 ez3 hq ls (lv_sub hl [3, 2, 1, 0] rfl) ?_
  intro ls hl
  refine lv_iload_n hx hb dX7_containedMatches_49 rfl (lv_at hl 0 rfl) ?_
  cases hs
  exact k_iret_r hx hb hr hlk rfl dX7_containedMatches_50 rfl
/-! X7_gapLength -/
set_option maxHeartbeats 4000000 in
set_option maxRecDepth 100000 in
theorem c_X7_gapLength (l : Launch) (D : va_G) (cI cZ cJ : ClassId) {ad : Nat → Nat} {x_work : Int} {x_rebuilds : Int} {x_reported : Int} {x_folding_on : Int} {x_buffer_length : Int} {a_buffer_bytes : (Int → Int)} {x_keywords_given : Int} {x_keywords_alive : Int} {a_keywords_bytes : (Int → Int)} {a_keywords_lengths : (Int → Int)} {a_keywords_weights : (Int → Int)} {a_keywords_lives : (Int → Int)} {x_mainSet_count : Int} {a_mainSet_members : (Int → Int)} {x_removalSet_count : Int} {a_removalSet_members : (Int → Int)} {x_superstring_slots : Int} {x_superstring_built : Int} {b_superstring_sw : Bool} {a_superstring_starts : (Int → Int)} {a_superstring_lengths : (Int → Int)} {a_superstring_overlaps : (Int → Int)} {x_superstring_area_length : Int} {a_superstring_area_bytes : (Int → Int)} {x_superstring_spare_length : Int} {a_superstring_spare_bytes : (Int → Int)} {x_stream_length : Int} {a_stream_bytes : (Int → Int)} {a_matches_words : (Int → Int)} {x_reports_size : Int} {a_reports_positions : (Int → Int)} {a_reports_numbers : (Int → Int)} {x_chosen_size : Int} {a_chosen_positions : (Int → Int)} {a_chosen_numbers : (Int → Int)} {a_depths : (Int → Int)} {a_bestFrom : (Int → Int)} {r : Int} {y_a_depths : (Int → Int)} {sz : Nat} (hs : s_X7_gapLength x_stream_length a_matches_words a_depths = some (r, y_a_depths)) : Met l yX7_gapLength wsX7_gapLength rm_X7_gapLength (PW D vwCl [(cI, .int), (cZ, .boolean), (cJ, .long)] [.ref (ad 0)] (wK cI cZ cJ ad x_work x_rebuilds x_reported x_folding_on x_buffer_length a_buffer_bytes x_keywords_given x_keywords_alive a_keywords_bytes a_keywords_lengths a_keywords_weights a_keywords_lives x_mainSet_count a_mainSet_members x_removalSet_count a_removalSet_members x_superstring_slots x_superstring_built b_superstring_sw a_superstring_starts a_superstring_lengths a_superstring_overlaps x_superstring_area_length a_superstring_area_bytes x_superstring_spare_length a_superstring_spare_bytes x_stream_length a_stream_bytes a_matches_words x_reports_size a_reports_positions a_reports_numbers x_chosen_size a_chosen_positions a_chosen_numbers a_depths a_bestFrom) sz) (QW D vwCl (some (.int (iI r))) (wK cI cZ cJ ad x_work x_rebuilds x_reported x_folding_on x_buffer_length a_buffer_bytes x_keywords_given x_keywords_alive a_keywords_bytes a_keywords_lengths a_keywords_weights a_keywords_lives x_mainSet_count a_mainSet_members x_removalSet_count a_removalSet_members x_superstring_slots x_superstring_built b_superstring_sw a_superstring_starts a_superstring_lengths a_superstring_overlaps x_superstring_area_length a_superstring_area_bytes x_superstring_spare_length a_superstring_spare_bytes x_stream_length a_stream_bytes a_matches_words x_reports_size a_reports_positions a_reports_numbers x_chosen_size a_chosen_positions a_chosen_numbers y_a_depths a_bestFrom) (va_A (wK cI cZ cJ ad x_work x_rebuilds x_reported x_folding_on x_buffer_length a_buffer_bytes x_keywords_given x_keywords_alive a_keywords_bytes a_keywords_lengths a_keywords_weights a_keywords_lives x_mainSet_count a_mainSet_members x_removalSet_count a_removalSet_members x_superstring_slots x_superstring_built b_superstring_sw a_superstring_starts a_superstring_lengths a_superstring_overlaps x_superstring_area_length a_superstring_area_bytes x_superstring_spare_length a_superstring_spare_bytes x_stream_length a_stream_bytes a_matches_words x_reports_size a_reports_positions a_reports_numbers x_chosen_size a_chosen_positions a_chosen_numbers a_depths a_bestFrom) sz)) 0 0 (va_A (wK cI cZ cJ ad x_work x_rebuilds x_reported x_folding_on x_buffer_length a_buffer_bytes x_keywords_given x_keywords_alive a_keywords_bytes a_keywords_lengths a_keywords_weights a_keywords_lives x_mainSet_count a_mainSet_members x_removalSet_count a_removalSet_members x_superstring_slots x_superstring_built b_superstring_sw a_superstring_starts a_superstring_lengths a_superstring_overlaps x_superstring_area_length a_superstring_area_bytes x_superstring_spare_length a_superstring_spare_bytes x_stream_length a_stream_bytes a_matches_words x_reports_size a_reports_positions a_reports_numbers x_chosen_size a_chosen_positions a_chosen_numbers a_depths a_bestFrom) sz) := by
  refine Met.ofW (cc := cX7_gapLength) (maxL := 4) (ret := (some .int)) (by decide) rfl ?_
  intro p e s m args below meth c s₁ B hml hv
  obtain ⟨hav, hsz, hP, hK, hD0⟩ := hv
  have hx := B.exec
  have hb := B.bytes
  have hr := B.returns
  have hts := atoms_spec (ws := wsX7_gapLength) B.pre
  have hown : s.vm.findClass RX7 = some m.cls := findClass_of_methodNamed B.named
  have hlk := B.notSynchronized
  have hf51 : (Cond.fieldLink RX7 51 "KeywordMatcher" "stream" "LKeywordMatcher$ByteRow;").before args s = true := hts _ (List.mem_of_getElem? (i := 1) rfl)
  have hiX7 : ∀ w ∈ wsX70, w ∈ wsX7_gapLength := fun w h => List.mem_cons_of_mem _ (List.mem_append_left _ (List.mem_append_left _ (List.mem_append_right _ h)))
  have hf89 : (Cond.fieldLink RX7 89 "KeywordMatcher$ByteRow" "length" "I").before args s = true := hts _ (List.mem_of_getElem? (i := 2) rfl)
  have hiX1 : ∀ w ∈ wsX10, w ∈ wsX7_gapLength := fun w h => List.mem_cons_of_mem _ (List.mem_append_left _ (List.mem_append_right _ h))
  have hf71 : (Cond.fieldLink RX7 71 "KeywordMatcher" "depths" "[I").before args s = true := hts _ (List.mem_of_getElem? (i := 3) rfl)
  have hm189 : (Cond.methodLink RX7 189 Lib.Math.max.name).before args s = true := hts _ (List.mem_of_getElem? (i := 4) rfl)
  have hst_max : (Cond.static Lib.Math.max.name).before args s = true := hts _ (List.mem_of_getElem? (i := 5) rfl)
  have hin_Math : (Cond.initialized "java/lang/Math").before args s = true := hts _ (List.mem_of_getElem? (i := 6) rfl)
  have hcd_max : (Cond.code Lib.Math.max.name Lib.Math.max.code 2 (some .int)).before args s = true := hts _ (List.mem_of_getElem? (i := 7) rfl)
  subst hsz
  have hD := hD0.self (sz := s.heap.size)
  generalize hAe : va_A (wK cI cZ cJ ad x_work x_rebuilds x_reported x_folding_on x_buffer_length a_buffer_bytes x_keywords_given x_keywords_alive a_keywords_bytes a_keywords_lengths a_keywords_weights a_keywords_lives x_mainSet_count a_mainSet_members x_removalSet_count a_removalSet_members x_superstring_slots x_superstring_built b_superstring_sw a_superstring_starts a_superstring_lengths a_superstring_overlaps x_superstring_area_length a_superstring_area_bytes x_superstring_spare_length a_superstring_spare_bytes x_stream_length a_stream_bytes a_matches_words x_reports_size a_reports_positions a_reports_numbers x_chosen_size a_chosen_positions a_chosen_numbers a_depths a_bestFrom) s.heap.size = Az at hD ⊢
  have hA : ∀ q : Nat, s.heap.size ≤ q → Az q := fun q h => by rw [← hAe]; exact Or.inr h
  clear hAe
  have hSz : va_S Az s.heap s.heap [] := va_S.rf
  obtain ⟨wz, hw1⟩ : ∃ z : va_W, z = (wK cI cZ cJ ad x_work x_rebuilds x_reported x_folding_on x_buffer_length a_buffer_bytes x_keywords_given x_keywords_alive a_keywords_bytes a_keywords_lengths a_keywords_weights a_keywords_lives x_mainSet_count a_mainSet_members x_removalSet_count a_removalSet_members x_superstring_slots x_superstring_built b_superstring_sw a_superstring_starts a_superstring_lengths a_superstring_overlaps x_superstring_area_length a_superstring_area_bytes x_superstring_spare_length a_superstring_spare_bytes x_stream_length a_stream_bytes a_matches_words x_reports_size a_reports_positions a_reports_numbers x_chosen_size a_chosen_positions a_chosen_numbers y_a_depths a_bestFrom) := ⟨_, rfl⟩
  rw [← hw1]
  have hl := lv_entry ([.ref (ad 0)]) (n := 4) (Nat.le_of_ble_eq_true rfl)
  rw [show entryFrame m args 4 = entryFrame m ([.ref (ad 0)] : List Value).toArray 4 from by rw [hav], lg_entry_eq]
  generalize (lg_sl ([.ref (ad 0)]) ++ List.replicate (4 - (lg_sl ([.ref (ad 0)])).length) Slot.unset).toArray = ls at hl ⊢
  have hl : lv_has ls 4 [(0, .ref (ad 0))] := hl
  unfold s_X7_gapLength at hs
  have Lz10 : ∀ (fu : Nat) (a_depths : (Int → Int)) (l1 : Int) (l2 : Int) (l3 : Int) (y0 : Int), s_X7_gapLength_10 fu x_stream_length a_depths l1 l2 l3 = some y0 → ∀ (Hz : Heap) (lz : List Loc), va_P D vwCl (wK cI cZ cJ ad x_work x_rebuilds x_reported x_folding_on x_buffer_length a_buffer_bytes x_keywords_given x_keywords_alive a_keywords_bytes a_keywords_lengths a_keywords_weights a_keywords_lives x_mainSet_count a_mainSet_members x_removalSet_count a_removalSet_members x_superstring_slots x_superstring_built b_superstring_sw a_superstring_starts a_superstring_lengths a_superstring_overlaps x_superstring_area_length a_superstring_area_bytes x_superstring_spare_length a_superstring_spare_bytes x_stream_length a_stream_bytes a_matches_words x_reports_size a_reports_positions a_reports_numbers x_chosen_size a_chosen_positions a_chosen_numbers a_depths a_bestFrom) Hz → va_D Az (wK cI cZ cJ ad x_work x_rebuilds x_reported x_folding_on x_buffer_length a_buffer_bytes x_keywords_given x_keywords_alive a_keywords_bytes a_keywords_lengths a_keywords_weights a_keywords_lives x_mainSet_count a_mainSet_members x_removalSet_count a_removalSet_members x_superstring_slots x_superstring_built b_superstring_sw a_superstring_starts a_superstring_lengths a_superstring_overlaps x_superstring_area_length a_superstring_area_bytes x_superstring_spare_length a_superstring_spare_bytes x_stream_length a_stream_bytes a_matches_words x_reports_size a_reports_positions a_reports_numbers x_chosen_size a_chosen_positions a_chosen_numbers a_depths a_bestFrom) → va_S Az s.heap Hz lz → ∀ ls : Array Slot, lv_has ls 4 [(0, .ref (ad 0)), (1, .int (iI l1)), (2, .int (iI l2)), (3, .int (iI l3))] → (∀ (Hz : Heap) (lz : List Loc), va_P D vwCl (wK cI cZ cJ ad x_work x_rebuilds x_reported x_folding_on x_buffer_length a_buffer_bytes x_keywords_given x_keywords_alive a_keywords_bytes a_keywords_lengths a_keywords_weights a_keywords_lives x_mainSet_count a_mainSet_members x_removalSet_count a_removalSet_members x_superstring_slots x_superstring_built b_superstring_sw a_superstring_starts a_superstring_lengths a_superstring_overlaps x_superstring_area_length a_superstring_area_bytes x_superstring_spare_length a_superstring_spare_bytes x_stream_length a_stream_bytes a_matches_words x_reports_size a_reports_positions a_reports_numbers x_chosen_size a_chosen_positions a_chosen_numbers a_depths a_bestFrom) Hz → va_D Az (wK cI cZ cJ ad x_work x_rebuilds x_reported x_folding_on x_buffer_length a_buffer_bytes x_keywords_given x_keywords_alive a_keywords_bytes a_keywords_lengths a_keywords_weights a_keywords_lives x_mainSet_count a_mainSet_members x_removalSet_count a_removalSet_members x_superstring_slots x_superstring_built b_superstring_sw a_superstring_starts a_superstring_lengths a_superstring_overlaps x_superstring_area_length a_superstring_area_bytes x_superstring_spare_length a_superstring_spare_bytes x_stream_length a_stream_bytes a_matches_words x_reports_size a_reports_positions a_reports_numbers x_chosen_size a_chosen_positions a_chosen_numbers a_depths a_bestFrom) → va_S Az s.heap Hz lz → ∀ ls : Array Slot, lv_has ls 4 [(1, .int (iI y0))] → W p l e (headSpec wsX7_gapLength rm_X7_gapLength).room s m args below meth c Hz lz 0 0 (MQ below (QW D vwCl (some (.int (iI r))) wz Az) args s 0 0 Az) (F0 m 50 ls [])) → W p l e (headSpec wsX7_gapLength rm_X7_gapLength).room s m args below meth c Hz lz 0 0 (MQ below (QW D vwCl (some (.int (iI r))) wz Az) args s 0 0 Az) (F0 m 10 ls []) := by
    intro fu
    induction fu with
    | zero => intro a_depths l1 l2 l3 y0 hs; cases hs
    | succ fu ih =>
      intro a_depths l1 l2 l3 y0 hs Hz lz hP hD hSz ls hl kx
      rw [s_X7_gapLength_10_s] at hs
      refine lv_iload_n hx hb dX7_gapLength_10 rfl (lv_at hl 3 rfl) ?_
      refine lv_aload_n hx hb dX7_gapLength_11 rfl (lv_at hl 0 rfl) ?_
      refine va_get (ci := 7) (v := .ref (ad 21)) (C := RX7) (T := TX7) (N := 15) hx hb hts hiX7 hown hK hP 0 rfl rfl 6 (by decide) hf51 (fun _ h9 => h9) rfl dX7_gapLength_12 ?_
      refine va_get (ci := 1) (v := .int (iI x_stream_length)) (C := RX1) (T := TX1) (N := 2) hx hb hts hiX1 hown hK hP 21 rfl rfl 1 (by decide) hf89 (fun _ h9 => h9) rfl dX7_gapLength_15 ?_
      refine k_icmp_ge (tgt := 50) hx hb hs dX7_gapLength_18 (by decide) (fun hs => ?_) (fun hs => ?_)
      · refine lv_aload_n hx hb dX7_gapLength_21 rfl (lv_at hl 0 rfl) ?_
        refine va_get (ci := 7) (v := .ref (ad 31)) (C := RX7) (T := TX7) (N := 15) hx hb hts hiX7 hown hK hP 0 rfl rfl 10 (by decide) hf71 (fun _ h9 => h9) rfl dX7_gapLength_22 ?_
        refine lv_iload_n hx hb dX7_gapLength_25 rfl (lv_at hl 3 rfl) ?_
        refine k_iald hx hb hK hP 31 0 rfl rfl (Nat.le_of_ble_eq_true rfl) hs dX7_gapLength_26 (fun vz2 hs => ?_)
        refine k_if_ne (tgt := 36) hx hb hs dX7_gapLength_27 (by decide) (fun hs => ?_) (fun hs => ?_)
        · refine lv_iload_n hx hb dX7_gapLength_30 rfl (lv_at hl 2 rfl) ?_
          refine k_iconst (n := 1) hx hb dX7_gapLength_31 ?_
          refine k_iadd hx hb dX7_gapLength_32 ?_
          refine lv_goto (tgt := 37) hx hb dX7_gapLength_33 (by decide) ?_
          refine lv_istore_n (lv' := [(2, .int (iI (l2 + 1))), (0, .ref (ad 0)), (1, .int (iI l1)), (3, .int (iI l3))]) hx hb dX7_gapLength_37 rfl hl (by decide) rfl (fun ls hl => ?_)
          refine lv_iload_n hx hb dX7_gapLength_38 rfl (lv_at hl 2 rfl) ?_
          refine lv_iload_n hx hb dX7_gapLength_39 rfl (lv_at hl 0 rfl) ?_
          refine k_mmax hx hb (hml.trans hl.1.symm) hown hm189 hst_max hin_Math hcd_max (Nat.le_of_ble_eq_true rfl) (Nat.le_of_ble_eq_true rfl) (Nat.zero_le _) (Nat.zero_le _) hs dX7_gapLength_40 (fun hs => ?_)
          refine lv_istore_n (lv' := [(1, .int (iI (iMax l1 (l2 + 1)))), (2, .int (iI (l2 + 1))), (0, .ref (ad 0)), (3, .int (iI l3))]) hx hb dX7_gapLength_43 rfl hl (by decide) rfl (fun ls hl => ?_)
          refine k_iinc (x := l3) (k := 3) (lv' := [(3, .int (iI (l3 + 1))), (1, .int (iI (iMax l1 (l2 + 1)))), (2, .int (iI (l2 + 1))), (0, .ref (ad 0))]) hx hb dX7_gapLength_44 hl rfl (by decide) rfl (fun ls hl => ?_)
          refine lv_goto (tgt := 10) hx hb dX7_gapLength_47 (by decide) ?_
          exact ih a_depths (iMax l1 (l2 + 1)) (l2 + 1) (l3 + 1) y0 hs Hz lz hP hD hSz ls (lv_sub hl [3, 1, 2, 0] rfl) kx
        · refine k_iconst (n := 0) hx hb dX7_gapLength_36 ?_
          refine lv_istore_n (lv' := [(2, .int (iI 0)), (0, .ref (ad 0)), (1, .int (iI l1)), (3, .int (iI l3))]) hx hb dX7_gapLength_37 rfl hl (by decide) rfl (fun ls hl => ?_)
          refine lv_iload_n hx hb dX7_gapLength_38 rfl (lv_at hl 2 rfl) ?_
          refine lv_iload_n hx hb dX7_gapLength_39 rfl (lv_at hl 0 rfl) ?_
          refine k_mmax hx hb (hml.trans hl.1.symm) hown hm189 hst_max hin_Math hcd_max (Nat.le_of_ble_eq_true rfl) (Nat.le_of_ble_eq_true rfl) (Nat.zero_le _) (Nat.zero_le _) hs dX7_gapLength_40 (fun hs => ?_)
          refine lv_istore_n (lv' := [(1, .int (iI (iMax l1 0))), (2, .int (iI 0)), (0, .ref (ad 0)), (3, .int (iI l3))]) hx hb dX7_gapLength_43 rfl hl (by decide) rfl (fun ls hl => ?_)
          refine k_iinc (x := l3) (k := 3) (lv' := [(3, .int (iI (l3 + 1))), (1, .int (iI (iMax l1 0))), (2, .int (iI 0)), (0, .ref (ad 0))]) hx hb dX7_gapLength_44 hl rfl (by decide) rfl (fun ls hl => ?_)
          refine lv_goto (tgt := 10) hx hb dX7_gapLength_47 (by decide) ?_
          exact ih a_depths (iMax l1 0) 0 (l3 + 1) y0 hs Hz lz hP hD hSz ls (lv_sub hl [3, 1, 2, 0] rfl) kx
      · cases hs
        exact kx Hz lz hP hD hSz ls (lv_sub hl [1] rfl)
  refine (?_ : ∀ (Hz : Heap) (lz : List Loc), va_P D vwCl (wK cI cZ cJ ad x_work x_rebuilds x_reported x_folding_on x_buffer_length a_buffer_bytes x_keywords_given x_keywords_alive a_keywords_bytes a_keywords_lengths a_keywords_weights a_keywords_lives x_mainSet_count a_mainSet_members x_removalSet_count a_removalSet_members x_superstring_slots x_superstring_built b_superstring_sw a_superstring_starts a_superstring_lengths a_superstring_overlaps x_superstring_area_length a_superstring_area_bytes x_superstring_spare_length a_superstring_spare_bytes x_stream_length a_stream_bytes a_matches_words x_reports_size a_reports_positions a_reports_numbers x_chosen_size a_chosen_positions a_chosen_numbers a_depths a_bestFrom) Hz → va_D Az (wK cI cZ cJ ad x_work x_rebuilds x_reported x_folding_on x_buffer_length a_buffer_bytes x_keywords_given x_keywords_alive a_keywords_bytes a_keywords_lengths a_keywords_weights a_keywords_lives x_mainSet_count a_mainSet_members x_removalSet_count a_removalSet_members x_superstring_slots x_superstring_built b_superstring_sw a_superstring_starts a_superstring_lengths a_superstring_overlaps x_superstring_area_length a_superstring_area_bytes x_superstring_spare_length a_superstring_spare_bytes x_stream_length a_stream_bytes a_matches_words x_reports_size a_reports_positions a_reports_numbers x_chosen_size a_chosen_positions a_chosen_numbers a_depths a_bestFrom) → va_S Az s.heap Hz lz → W p l e (headSpec wsX7_gapLength rm_X7_gapLength).room s m args below meth c Hz lz 0 0 (MQ below (QW D vwCl (some (.int (iI r))) wz Az) args s 0 0 Az) (F0 m 0 ls [])) s.heap [] hP hD hSz
  intro Hz lz hP hD hSz
  refine lv_aload_n hx hb dX7_gapLength_0 rfl (lv_at hl 0 rfl) ?_
  obtain ⟨vz1, hcz, hs⟩ := bd1_some hs
  refine k_wVs (As := []) (rest := []) (st1 := []) (w1 := (wK cI cZ cJ ad x_work x_rebuilds x_reported x_folding_on x_buffer_length a_buffer_bytes x_keywords_given x_keywords_alive a_keywords_bytes a_keywords_lengths a_keywords_weights a_keywords_lives x_mainSet_count a_mainSet_members x_removalSet_count a_removalSet_members x_superstring_slots x_superstring_built b_superstring_sw a_superstring_starts a_superstring_lengths a_superstring_overlaps x_superstring_area_length a_superstring_area_bytes x_superstring_spare_length a_superstring_spare_bytes x_stream_length a_stream_bytes a_matches_words x_reports_size a_reports_positions a_reports_numbers x_chosen_size a_chosen_positions a_chosen_numbers vz1 a_bestFrom)) ⟨hx, hb, hml, hown, hts⟩ hK hP hD hSz hA (c_X7_measureDepths l D cI cZ cJ hcz) (cwV 0 hts gX7_gapLength_X7_measureDepths rfl rfl rfl (by decide +kernel) ⟨Nat.le_of_ble_eq_true rfl, Nat.le_of_ble_eq_true rfl⟩) 0 rfl rfl rfl rfl rfl hl.1 rfl (lv_room (Nat.le_of_ble_eq_true rfl)) dX7_gapLength_1 ⟨Nat.zero_le _, Nat.zero_le _⟩ rfl (fun Hz lz hP hD hSz => ?_)
  have hP : va_P D vwCl (wK cI cZ cJ ad x_work x_rebuilds x_reported x_folding_on x_buffer_length a_buffer_bytes x_keywords_given x_keywords_alive a_keywords_bytes a_keywords_lengths a_keywords_weights a_keywords_lives x_mainSet_count a_mainSet_members x_removalSet_count a_removalSet_members x_superstring_slots x_superstring_built b_superstring_sw a_superstring_starts a_superstring_lengths a_superstring_overlaps x_superstring_area_length a_superstring_area_bytes x_superstring_spare_length a_superstring_spare_bytes x_stream_length a_stream_bytes a_matches_words x_reports_size a_reports_positions a_reports_numbers x_chosen_size a_chosen_positions a_chosen_numbers vz1 a_bestFrom) Hz := hP
  have hD : va_D Az (wK cI cZ cJ ad x_work x_rebuilds x_reported x_folding_on x_buffer_length a_buffer_bytes x_keywords_given x_keywords_alive a_keywords_bytes a_keywords_lengths a_keywords_weights a_keywords_lives x_mainSet_count a_mainSet_members x_removalSet_count a_removalSet_members x_superstring_slots x_superstring_built b_superstring_sw a_superstring_starts a_superstring_lengths a_superstring_overlaps x_superstring_area_length a_superstring_area_bytes x_superstring_spare_length a_superstring_spare_bytes x_stream_length a_stream_bytes a_matches_words x_reports_size a_reports_positions a_reports_numbers x_chosen_size a_chosen_positions a_chosen_numbers vz1 a_bestFrom) := hD
  refine k_iconst (n := 0) hx hb dX7_gapLength_4 ?_
  refine lv_istore_n (lv' := [(1, .int (iI 0)), (0, .ref (ad 0))]) hx hb dX7_gapLength_5 rfl hl (by decide) rfl (fun ls hl => ?_)
  refine k_iconst (n := 0) hx hb dX7_gapLength_6 ?_
  refine lv_istore_n (lv' := [(2, .int (iI 0)), (1, .int (iI 0)), (0, .ref (ad 0))]) hx hb dX7_gapLength_7 rfl hl (by decide) rfl (fun ls hl => ?_)
  refine k_iconst (n := 0) hx hb dX7_gapLength_8 ?_
  refine lv_istore_n (lv' := [(3, .int (iI 0)), (2, .int (iI 0)), (1, .int (iI 0)), (0, .ref (ad 0))]) hx hb dX7_gapLength_9 rfl hl (by decide) rfl (fun ls hl => ?_)
  obtain ⟨ez3, hq, hs⟩ := bd1_some hs
  refine Lz10 FU vz1 0 0 0 ez3 hq Hz lz hP hD hSz ls (lv_sub hl [3, 2, 1, 0] rfl) ?_
  intro Hz lz hP hD hSz ls hl
  refine lv_iload_n hx hb dX7_gapLength_50 rfl (lv_at hl 0 rfl) ?_
  cases hs
  exact k_iret_w hx hb hr hlk (by rw [hw1]; exact hP) hSz dX7_gapLength_51 rfl
/-! X7_gapStart -/
set_option maxHeartbeats 4000000 in
set_option maxRecDepth 100000 in
theorem c_X7_gapStart (l : Launch) (D : va_G) (cI cZ cJ : ClassId) {ad : Nat → Nat} {x_work : Int} {x_rebuilds : Int} {x_reported : Int} {x_folding_on : Int} {x_buffer_length : Int} {a_buffer_bytes : (Int → Int)} {x_keywords_given : Int} {x_keywords_alive : Int} {a_keywords_bytes : (Int → Int)} {a_keywords_lengths : (Int → Int)} {a_keywords_weights : (Int → Int)} {a_keywords_lives : (Int → Int)} {x_mainSet_count : Int} {a_mainSet_members : (Int → Int)} {x_removalSet_count : Int} {a_removalSet_members : (Int → Int)} {x_superstring_slots : Int} {x_superstring_built : Int} {b_superstring_sw : Bool} {a_superstring_starts : (Int → Int)} {a_superstring_lengths : (Int → Int)} {a_superstring_overlaps : (Int → Int)} {x_superstring_area_length : Int} {a_superstring_area_bytes : (Int → Int)} {x_superstring_spare_length : Int} {a_superstring_spare_bytes : (Int → Int)} {x_stream_length : Int} {a_stream_bytes : (Int → Int)} {a_matches_words : (Int → Int)} {x_reports_size : Int} {a_reports_positions : (Int → Int)} {a_reports_numbers : (Int → Int)} {x_chosen_size : Int} {a_chosen_positions : (Int → Int)} {a_chosen_numbers : (Int → Int)} {a_depths : (Int → Int)} {a_bestFrom : (Int → Int)} {r : Int} {y_a_depths : (Int → Int)} {sz : Nat} (hs : s_X7_gapStart x_stream_length a_matches_words a_depths = some (r, y_a_depths)) : Met l yX7_gapStart wsX7_gapStart rm_X7_gapStart (PW D vwCl [(cI, .int), (cZ, .boolean), (cJ, .long)] [.ref (ad 0)] (wK cI cZ cJ ad x_work x_rebuilds x_reported x_folding_on x_buffer_length a_buffer_bytes x_keywords_given x_keywords_alive a_keywords_bytes a_keywords_lengths a_keywords_weights a_keywords_lives x_mainSet_count a_mainSet_members x_removalSet_count a_removalSet_members x_superstring_slots x_superstring_built b_superstring_sw a_superstring_starts a_superstring_lengths a_superstring_overlaps x_superstring_area_length a_superstring_area_bytes x_superstring_spare_length a_superstring_spare_bytes x_stream_length a_stream_bytes a_matches_words x_reports_size a_reports_positions a_reports_numbers x_chosen_size a_chosen_positions a_chosen_numbers a_depths a_bestFrom) sz) (QW D vwCl (some (.int (iI r))) (wK cI cZ cJ ad x_work x_rebuilds x_reported x_folding_on x_buffer_length a_buffer_bytes x_keywords_given x_keywords_alive a_keywords_bytes a_keywords_lengths a_keywords_weights a_keywords_lives x_mainSet_count a_mainSet_members x_removalSet_count a_removalSet_members x_superstring_slots x_superstring_built b_superstring_sw a_superstring_starts a_superstring_lengths a_superstring_overlaps x_superstring_area_length a_superstring_area_bytes x_superstring_spare_length a_superstring_spare_bytes x_stream_length a_stream_bytes a_matches_words x_reports_size a_reports_positions a_reports_numbers x_chosen_size a_chosen_positions a_chosen_numbers y_a_depths a_bestFrom) (va_A (wK cI cZ cJ ad x_work x_rebuilds x_reported x_folding_on x_buffer_length a_buffer_bytes x_keywords_given x_keywords_alive a_keywords_bytes a_keywords_lengths a_keywords_weights a_keywords_lives x_mainSet_count a_mainSet_members x_removalSet_count a_removalSet_members x_superstring_slots x_superstring_built b_superstring_sw a_superstring_starts a_superstring_lengths a_superstring_overlaps x_superstring_area_length a_superstring_area_bytes x_superstring_spare_length a_superstring_spare_bytes x_stream_length a_stream_bytes a_matches_words x_reports_size a_reports_positions a_reports_numbers x_chosen_size a_chosen_positions a_chosen_numbers a_depths a_bestFrom) sz)) 0 0 (va_A (wK cI cZ cJ ad x_work x_rebuilds x_reported x_folding_on x_buffer_length a_buffer_bytes x_keywords_given x_keywords_alive a_keywords_bytes a_keywords_lengths a_keywords_weights a_keywords_lives x_mainSet_count a_mainSet_members x_removalSet_count a_removalSet_members x_superstring_slots x_superstring_built b_superstring_sw a_superstring_starts a_superstring_lengths a_superstring_overlaps x_superstring_area_length a_superstring_area_bytes x_superstring_spare_length a_superstring_spare_bytes x_stream_length a_stream_bytes a_matches_words x_reports_size a_reports_positions a_reports_numbers x_chosen_size a_chosen_positions a_chosen_numbers a_depths a_bestFrom) sz) := by
  refine Met.ofW (cc := cX7_gapStart) (maxL := 4) (ret := (some .int)) (by decide) rfl ?_
  intro p e s m args below meth c s₁ B hml hv
  obtain ⟨hav, hsz, hP, hK, hD0⟩ := hv
  have hx := B.exec
  have hb := B.bytes
  have hr := B.returns
  have hts := atoms_spec (ws := wsX7_gapStart) B.pre
  have hown : s.vm.findClass RX7 = some m.cls := findClass_of_methodNamed B.named
  have hlk := B.notSynchronized
  have hf51 : (Cond.fieldLink RX7 51 "KeywordMatcher" "stream" "LKeywordMatcher$ByteRow;").before args s = true := hts _ (List.mem_of_getElem? (i := 1) rfl)
  have hiX7 : ∀ w ∈ wsX70, w ∈ wsX7_gapStart := fun w h => List.mem_cons_of_mem _ (List.mem_append_left _ (List.mem_append_left _ (List.mem_append_right _ h)))
  have hf89 : (Cond.fieldLink RX7 89 "KeywordMatcher$ByteRow" "length" "I").before args s = true := hts _ (List.mem_of_getElem? (i := 2) rfl)
  have hiX1 : ∀ w ∈ wsX10, w ∈ wsX7_gapStart := fun w h => List.mem_cons_of_mem _ (List.mem_append_left _ (List.mem_append_right _ h))
  have hf71 : (Cond.fieldLink RX7 71 "KeywordMatcher" "depths" "[I").before args s = true := hts _ (List.mem_of_getElem? (i := 3) rfl)
  subst hsz
  have hD := hD0.self (sz := s.heap.size)
  generalize hAe : va_A (wK cI cZ cJ ad x_work x_rebuilds x_reported x_folding_on x_buffer_length a_buffer_bytes x_keywords_given x_keywords_alive a_keywords_bytes a_keywords_lengths a_keywords_weights a_keywords_lives x_mainSet_count a_mainSet_members x_removalSet_count a_removalSet_members x_superstring_slots x_superstring_built b_superstring_sw a_superstring_starts a_superstring_lengths a_superstring_overlaps x_superstring_area_length a_superstring_area_bytes x_superstring_spare_length a_superstring_spare_bytes x_stream_length a_stream_bytes a_matches_words x_reports_size a_reports_positions a_reports_numbers x_chosen_size a_chosen_positions a_chosen_numbers a_depths a_bestFrom) s.heap.size = Az at hD ⊢
  have hA : ∀ q : Nat, s.heap.size ≤ q → Az q := fun q h => by rw [← hAe]; exact Or.inr h
  clear hAe
  have hSz : va_S Az s.heap s.heap [] := va_S.rf
  obtain ⟨wz, hw1⟩ : ∃ z : va_W, z = (wK cI cZ cJ ad x_work x_rebuilds x_reported x_folding_on x_buffer_length a_buffer_bytes x_keywords_given x_keywords_alive a_keywords_bytes a_keywords_lengths a_keywords_weights a_keywords_lives x_mainSet_count a_mainSet_members x_removalSet_count a_removalSet_members x_superstring_slots x_superstring_built b_superstring_sw a_superstring_starts a_superstring_lengths a_superstring_overlaps x_superstring_area_length a_superstring_area_bytes x_superstring_spare_length a_superstring_spare_bytes x_stream_length a_stream_bytes a_matches_words x_reports_size a_reports_positions a_reports_numbers x_chosen_size a_chosen_positions a_chosen_numbers y_a_depths a_bestFrom) := ⟨_, rfl⟩
  rw [← hw1]
  have hl := lv_entry ([.ref (ad 0)]) (n := 4) (Nat.le_of_ble_eq_true rfl)
  rw [show entryFrame m args 4 = entryFrame m ([.ref (ad 0)] : List Value).toArray 4 from by rw [hav], lg_entry_eq]
  generalize (lg_sl ([.ref (ad 0)]) ++ List.replicate (4 - (lg_sl ([.ref (ad 0)])).length) Slot.unset).toArray = ls at hl ⊢
  have hl : lv_has ls 4 [(0, .ref (ad 0))] := hl
  unfold s_X7_gapStart at hs
  have Lz9 : ∀ (fu : Nat) (a_depths : (Int → Int)) (l1 : Int) (l2 : Int) (l3 : Int), s_X7_gapStart_9 fu x_stream_length a_depths l1 l2 l3 = some (r, y_a_depths) → ∀ (Hz : Heap) (lz : List Loc), va_P D vwCl (wK cI cZ cJ ad x_work x_rebuilds x_reported x_folding_on x_buffer_length a_buffer_bytes x_keywords_given x_keywords_alive a_keywords_bytes a_keywords_lengths a_keywords_weights a_keywords_lives x_mainSet_count a_mainSet_members x_removalSet_count a_removalSet_members x_superstring_slots x_superstring_built b_superstring_sw a_superstring_starts a_superstring_lengths a_superstring_overlaps x_superstring_area_length a_superstring_area_bytes x_superstring_spare_length a_superstring_spare_bytes x_stream_length a_stream_bytes a_matches_words x_reports_size a_reports_positions a_reports_numbers x_chosen_size a_chosen_positions a_chosen_numbers a_depths a_bestFrom) Hz → va_D Az (wK cI cZ cJ ad x_work x_rebuilds x_reported x_folding_on x_buffer_length a_buffer_bytes x_keywords_given x_keywords_alive a_keywords_bytes a_keywords_lengths a_keywords_weights a_keywords_lives x_mainSet_count a_mainSet_members x_removalSet_count a_removalSet_members x_superstring_slots x_superstring_built b_superstring_sw a_superstring_starts a_superstring_lengths a_superstring_overlaps x_superstring_area_length a_superstring_area_bytes x_superstring_spare_length a_superstring_spare_bytes x_stream_length a_stream_bytes a_matches_words x_reports_size a_reports_positions a_reports_numbers x_chosen_size a_chosen_positions a_chosen_numbers a_depths a_bestFrom) → va_S Az s.heap Hz lz → ∀ ls : Array Slot, lv_has ls 4 [(0, .ref (ad 0)), (1, .int (iI l1)), (2, .int (iI l2)), (3, .int (iI l3))] → W p l e (headSpec wsX7_gapStart rm_X7_gapStart).room s m args below meth c Hz lz 0 0 (MQ below (QW D vwCl (some (.int (iI r))) wz Az) args s 0 0 Az) (F0 m 9 ls []) := by
    intro fu
    induction fu with
    | zero => intro a_depths l1 l2 l3 hs; cases hs
    | succ fu ih =>
      intro a_depths l1 l2 l3 hs Hz lz hP hD hSz ls hl
      rw [s_X7_gapStart_9_s] at hs
      refine lv_iload_n hx hb dX7_gapStart_9 rfl (lv_at hl 3 rfl) ?_
      refine lv_aload_n hx hb dX7_gapStart_10 rfl (lv_at hl 0 rfl) ?_
      refine va_get (ci := 7) (v := .ref (ad 21)) (C := RX7) (T := TX7) (N := 15) hx hb hts hiX7 hown hK hP 0 rfl rfl 6 (by decide) hf51 (fun _ h9 => h9) rfl dX7_gapStart_11 ?_
      refine va_get (ci := 1) (v := .int (iI x_stream_length)) (C := RX1) (T := TX1) (N := 2) hx hb hts hiX1 hown hK hP 21 rfl rfl 1 (by decide) hf89 (fun _ h9 => h9) rfl dX7_gapStart_14 ?_
      refine k_icmp_ge (tgt := 58) hx hb hs dX7_gapStart_17 (by decide) (fun hs => ?_) (fun hs => ?_)
      · refine lv_aload_n hx hb dX7_gapStart_20 rfl (lv_at hl 0 rfl) ?_
        refine va_get (ci := 7) (v := .ref (ad 31)) (C := RX7) (T := TX7) (N := 15) hx hb hts hiX7 hown hK hP 0 rfl rfl 10 (by decide) hf71 (fun _ h9 => h9) rfl dX7_gapStart_21 ?_
        refine lv_iload_n hx hb dX7_gapStart_24 rfl (lv_at hl 3 rfl) ?_
        refine k_iald hx hb hK hP 31 0 rfl rfl (Nat.le_of_ble_eq_true rfl) hs dX7_gapStart_25 (fun vz3 hs => ?_)
        refine k_if_ne (tgt := 35) hx hb hs dX7_gapStart_26 (by decide) (fun hs => ?_) (fun hs => ?_)
        · refine lv_iload_n hx hb dX7_gapStart_29 rfl (lv_at hl 2 rfl) ?_
          refine k_iconst (n := 1) hx hb dX7_gapStart_30 ?_
          refine k_iadd hx hb dX7_gapStart_31 ?_
          refine lv_goto (tgt := 36) hx hb dX7_gapStart_32 (by decide) ?_
          refine lv_istore_n (lv' := [(2, .int (iI (l2 + 1))), (0, .ref (ad 0)), (1, .int (iI l1)), (3, .int (iI l3))]) hx hb dX7_gapStart_36 rfl hl (by decide) rfl (fun ls hl => ?_)
          refine lv_iload_n hx hb dX7_gapStart_37 rfl (lv_at hl 0 rfl) ?_
          refine k_if_le (tgt := 52) hx hb hs dX7_gapStart_38 (by decide) (fun hs => ?_) (fun hs => ?_)
          · refine lv_iload_n hx hb dX7_gapStart_41 rfl (lv_at hl 0 rfl) ?_
            refine lv_iload_n hx hb dX7_gapStart_42 rfl (lv_at hl 2 rfl) ?_
            refine k_icmp_ne (tgt := 52) hx hb hs dX7_gapStart_43 (by decide) (fun hs => ?_) (fun hs => ?_)
            · refine lv_iload_n hx hb dX7_gapStart_46 rfl (lv_at hl 3 rfl) ?_
              refine lv_iload_n hx hb dX7_gapStart_47 rfl (lv_at hl 0 rfl) ?_
              refine k_isub hx hb dX7_gapStart_48 ?_
              refine k_iconst (n := 1) hx hb dX7_gapStart_49 ?_
              refine k_iadd hx hb dX7_gapStart_50 ?_
              cases hs
              exact k_iret_w hx hb hr hlk (by rw [hw1]; exact hP) hSz dX7_gapStart_51 rfl
            · refine k_iinc (x := l3) (k := 3) (lv' := [(3, .int (iI (l3 + 1))), (2, .int (iI (l2 + 1))), (0, .ref (ad 0)), (1, .int (iI l1))]) hx hb dX7_gapStart_52 hl rfl (by decide) rfl (fun ls hl => ?_)
              refine lv_goto (tgt := 9) hx hb dX7_gapStart_55 (by decide) ?_
              exact ih a_depths l1 (l2 + 1) (l3 + 1)  hs Hz lz hP hD hSz ls (lv_sub hl [2, 3, 1, 0] rfl)
          · refine k_iinc (x := l3) (k := 3) (lv' := [(3, .int (iI (l3 + 1))), (2, .int (iI (l2 + 1))), (0, .ref (ad 0)), (1, .int (iI l1))]) hx hb dX7_gapStart_52 hl rfl (by decide) rfl (fun ls hl => ?_)
            refine lv_goto (tgt := 9) hx hb dX7_gapStart_55 (by decide) ?_
            exact ih a_depths l1 (l2 + 1) (l3 + 1)  hs Hz lz hP hD hSz ls (lv_sub hl [2, 3, 1, 0] rfl)
        · refine k_iconst (n := 0) hx hb dX7_gapStart_35 ?_
          refine lv_istore_n (lv' := [(2, .int (iI 0)), (0, .ref (ad 0)), (1, .int (iI l1)), (3, .int (iI l3))]) hx hb dX7_gapStart_36 rfl hl (by decide) rfl (fun ls hl => ?_)
          refine lv_iload_n hx hb dX7_gapStart_37 rfl (lv_at hl 0 rfl) ?_
          refine k_if_le (tgt := 52) hx hb hs dX7_gapStart_38 (by decide) (fun hs => ?_) (fun hs => ?_)
          · refine lv_iload_n hx hb dX7_gapStart_41 rfl (lv_at hl 0 rfl) ?_
            refine lv_iload_n hx hb dX7_gapStart_42 rfl (lv_at hl 2 rfl) ?_
            refine k_icmp_ne (tgt := 52) hx hb hs dX7_gapStart_43 (by decide) (fun hs => ?_) (fun hs => ?_)
            · refine lv_iload_n hx hb dX7_gapStart_46 rfl (lv_at hl 3 rfl) ?_
              refine lv_iload_n hx hb dX7_gapStart_47 rfl (lv_at hl 0 rfl) ?_
              refine k_isub hx hb dX7_gapStart_48 ?_
              refine k_iconst (n := 1) hx hb dX7_gapStart_49 ?_
              refine k_iadd hx hb dX7_gapStart_50 ?_
              cases hs
              exact k_iret_w hx hb hr hlk (by rw [hw1]; exact hP) hSz dX7_gapStart_51 rfl
            · refine k_iinc (x := l3) (k := 3) (lv' := [(3, .int (iI (l3 + 1))), (2, .int (iI 0)), (0, .ref (ad 0)), (1, .int (iI l1))]) hx hb dX7_gapStart_52 hl rfl (by decide) rfl (fun ls hl => ?_)
              refine lv_goto (tgt := 9) hx hb dX7_gapStart_55 (by decide) ?_
              exact ih a_depths l1 0 (l3 + 1)  hs Hz lz hP hD hSz ls (lv_sub hl [2, 3, 1, 0] rfl)
          · refine k_iinc (x := l3) (k := 3) (lv' := [(3, .int (iI (l3 + 1))), (2, .int (iI 0)), (0, .ref (ad 0)), (1, .int (iI l1))]) hx hb dX7_gapStart_52 hl rfl (by decide) rfl (fun ls hl => ?_)
            refine lv_goto (tgt := 9) hx hb dX7_gapStart_55 (by decide) ?_
            exact ih a_depths l1 0 (l3 + 1)  hs Hz lz hP hD hSz ls (lv_sub hl [2, 3, 1, 0] rfl)
      · refine k_iconst (n := (-1)) hx hb dX7_gapStart_58 ?_
        cases hs
        exact k_iret_w hx hb hr hlk (by rw [hw1]; exact hP) hSz dX7_gapStart_59 rfl
  refine (?_ : ∀ (Hz : Heap) (lz : List Loc), va_P D vwCl (wK cI cZ cJ ad x_work x_rebuilds x_reported x_folding_on x_buffer_length a_buffer_bytes x_keywords_given x_keywords_alive a_keywords_bytes a_keywords_lengths a_keywords_weights a_keywords_lives x_mainSet_count a_mainSet_members x_removalSet_count a_removalSet_members x_superstring_slots x_superstring_built b_superstring_sw a_superstring_starts a_superstring_lengths a_superstring_overlaps x_superstring_area_length a_superstring_area_bytes x_superstring_spare_length a_superstring_spare_bytes x_stream_length a_stream_bytes a_matches_words x_reports_size a_reports_positions a_reports_numbers x_chosen_size a_chosen_positions a_chosen_numbers a_depths a_bestFrom) Hz → va_D Az (wK cI cZ cJ ad x_work x_rebuilds x_reported x_folding_on x_buffer_length a_buffer_bytes x_keywords_given x_keywords_alive a_keywords_bytes a_keywords_lengths a_keywords_weights a_keywords_lives x_mainSet_count a_mainSet_members x_removalSet_count a_removalSet_members x_superstring_slots x_superstring_built b_superstring_sw a_superstring_starts a_superstring_lengths a_superstring_overlaps x_superstring_area_length a_superstring_area_bytes x_superstring_spare_length a_superstring_spare_bytes x_stream_length a_stream_bytes a_matches_words x_reports_size a_reports_positions a_reports_numbers x_chosen_size a_chosen_positions a_chosen_numbers a_depths a_bestFrom) → va_S Az s.heap Hz lz → W p l e (headSpec wsX7_gapStart rm_X7_gapStart).room s m args below meth c Hz lz 0 0 (MQ below (QW D vwCl (some (.int (iI r))) wz Az) args s 0 0 Az) (F0 m 0 ls [])) s.heap [] hP hD hSz
  intro Hz lz hP hD hSz
  refine lv_aload_n hx hb dX7_gapStart_0 rfl (lv_at hl 0 rfl) ?_
  obtain ⟨vz1, vz2, hcz, hs⟩ := bd2_some hs
  refine k_wVs (As := []) (rest := []) (st1 := [.int (iI vz1)]) (w1 := (wK cI cZ cJ ad x_work x_rebuilds x_reported x_folding_on x_buffer_length a_buffer_bytes x_keywords_given x_keywords_alive a_keywords_bytes a_keywords_lengths a_keywords_weights a_keywords_lives x_mainSet_count a_mainSet_members x_removalSet_count a_removalSet_members x_superstring_slots x_superstring_built b_superstring_sw a_superstring_starts a_superstring_lengths a_superstring_overlaps x_superstring_area_length a_superstring_area_bytes x_superstring_spare_length a_superstring_spare_bytes x_stream_length a_stream_bytes a_matches_words x_reports_size a_reports_positions a_reports_numbers x_chosen_size a_chosen_positions a_chosen_numbers vz2 a_bestFrom)) ⟨hx, hb, hml, hown, hts⟩ hK hP hD hSz hA (c_X7_gapLength l D cI cZ cJ hcz) (cwV 0 hts gX7_gapStart_X7_gapLength rfl rfl rfl (by decide +kernel) ⟨Nat.le_of_ble_eq_true rfl, Nat.le_of_ble_eq_true rfl⟩) 0 rfl rfl rfl rfl rfl hl.1 rfl (lv_room (Nat.le_of_ble_eq_true rfl)) dX7_gapStart_1 ⟨Nat.zero_le _, Nat.zero_le _⟩ rfl (fun Hz lz hP hD hSz => ?_)
  have hP : va_P D vwCl (wK cI cZ cJ ad x_work x_rebuilds x_reported x_folding_on x_buffer_length a_buffer_bytes x_keywords_given x_keywords_alive a_keywords_bytes a_keywords_lengths a_keywords_weights a_keywords_lives x_mainSet_count a_mainSet_members x_removalSet_count a_removalSet_members x_superstring_slots x_superstring_built b_superstring_sw a_superstring_starts a_superstring_lengths a_superstring_overlaps x_superstring_area_length a_superstring_area_bytes x_superstring_spare_length a_superstring_spare_bytes x_stream_length a_stream_bytes a_matches_words x_reports_size a_reports_positions a_reports_numbers x_chosen_size a_chosen_positions a_chosen_numbers vz2 a_bestFrom) Hz := hP
  have hD : va_D Az (wK cI cZ cJ ad x_work x_rebuilds x_reported x_folding_on x_buffer_length a_buffer_bytes x_keywords_given x_keywords_alive a_keywords_bytes a_keywords_lengths a_keywords_weights a_keywords_lives x_mainSet_count a_mainSet_members x_removalSet_count a_removalSet_members x_superstring_slots x_superstring_built b_superstring_sw a_superstring_starts a_superstring_lengths a_superstring_overlaps x_superstring_area_length a_superstring_area_bytes x_superstring_spare_length a_superstring_spare_bytes x_stream_length a_stream_bytes a_matches_words x_reports_size a_reports_positions a_reports_numbers x_chosen_size a_chosen_positions a_chosen_numbers vz2 a_bestFrom) := hD
  refine lv_istore_n (lv' := [(1, .int (iI vz1)), (0, .ref (ad 0))]) hx hb dX7_gapStart_4 rfl hl (by decide) rfl (fun ls hl => ?_)
  refine k_iconst (n := 0) hx hb dX7_gapStart_5 ?_
  refine lv_istore_n (lv' := [(2, .int (iI 0)), (1, .int (iI vz1)), (0, .ref (ad 0))]) hx hb dX7_gapStart_6 rfl hl (by decide) rfl (fun ls hl => ?_)
  refine k_iconst (n := 0) hx hb dX7_gapStart_7 ?_
  refine lv_istore_n (lv' := [(3, .int (iI 0)), (2, .int (iI 0)), (1, .int (iI vz1)), (0, .ref (ad 0))]) hx hb dX7_gapStart_8 rfl hl (by decide) rfl (fun ls hl => ?_)
  exact Lz9 FU vz2 vz1 0 0 hs Hz lz hP hD hSz ls (lv_sub hl [3, 2, 1, 0] rfl)
