/-! X6_forget -/
set_option maxHeartbeats 4000000 in
set_option maxRecDepth 100000 in
theorem c_X6_forget (l : Launch) (D : va_G) (cI cZ cJ : ClassId) {q0 q1 q2 q3 q4 q5 q6 q7 q8 : Nat} {x_slots : Int} {x_built : Int} {b_sw : Bool} {x_folding_on : Int} {a_starts : (Int → Int)} {a_lengths : (Int → Int)} {a_overlaps : (Int → Int)} {x_area_length : Int} {a_area_bytes : (Int → Int)} {x_spare_length : Int} {a_spare_bytes : (Int → Int)} {y_x_built : Int} {sz : Nat} (hs : s_X6_forget x_built = some y_x_built) : Met l yX6_forget wsX6_forget rm_X6_forget (PW D vwCl [(cI, .int), (cZ, .boolean), (cJ, .long)] [.ref q0] (wS cI cZ cJ q0 q1 q2 q3 q4 q5 q6 q7 q8 x_slots x_built b_sw x_folding_on a_starts a_lengths a_overlaps x_area_length a_area_bytes x_spare_length a_spare_bytes) sz) (QW D vwCl none (wS cI cZ cJ q0 q1 q2 q3 q4 q5 q6 q7 q8 x_slots y_x_built b_sw x_folding_on a_starts a_lengths a_overlaps x_area_length a_area_bytes x_spare_length a_spare_bytes) (va_A (wS cI cZ cJ q0 q1 q2 q3 q4 q5 q6 q7 q8 x_slots x_built b_sw x_folding_on a_starts a_lengths a_overlaps x_area_length a_area_bytes x_spare_length a_spare_bytes) sz)) 0 0 (va_A (wS cI cZ cJ q0 q1 q2 q3 q4 q5 q6 q7 q8 x_slots x_built b_sw x_folding_on a_starts a_lengths a_overlaps x_area_length a_area_bytes x_spare_length a_spare_bytes) sz) := by
  refine Met.ofW (cc := cX6_forget) (maxL := 1) (ret := none) (by decide) rfl ?_
  intro p e s m args below meth c s₁ B hml hv
  obtain ⟨hav, hsz, hP, hK, hD0⟩ := hv
  have hx := B.exec
  have hb := B.bytes
  have hr := B.returns
  have hts := atoms_spec (ws := wsX6_forget) B.pre
  have hown : s.vm.findClass RX6 = some m.cls := findClass_of_methodNamed B.named
  have hlk := B.notSynchronized
  have hf41 : (Cond.fieldLink RX6 41 "KeywordMatcher$Superstring" "built" "Z").before args s = true := hts _ (List.mem_of_getElem? (i := 1) rfl)
  have hiX6 : ∀ w ∈ wsX60, w ∈ wsX6_forget := fun w h => List.mem_cons_of_mem _ (List.mem_append_right _ h)
  subst hsz
  have hD := hD0.self (sz := s.heap.size)
  generalize hAe : va_A (wS cI cZ cJ q0 q1 q2 q3 q4 q5 q6 q7 q8 x_slots x_built b_sw x_folding_on a_starts a_lengths a_overlaps x_area_length a_area_bytes x_spare_length a_spare_bytes) s.heap.size = Az at hD ⊢
  have hA : ∀ q : Nat, s.heap.size ≤ q → Az q := fun q h => by rw [← hAe]; exact Or.inr h
  clear hAe
  have hSz : va_S Az s.heap s.heap [] := va_S.rf
  obtain ⟨wz, hw1⟩ : ∃ z : va_W, z = (wS cI cZ cJ q0 q1 q2 q3 q4 q5 q6 q7 q8 x_slots y_x_built b_sw x_folding_on a_starts a_lengths a_overlaps x_area_length a_area_bytes x_spare_length a_spare_bytes) := ⟨_, rfl⟩
  rw [← hw1]
  have hl := lv_entry ([.ref q0]) (n := 1) (Nat.le_of_ble_eq_true rfl)
  rw [show entryFrame m args 1 = entryFrame m ([.ref q0] : List Value).toArray 1 from by rw [hav], lg_entry_eq]
  generalize (lg_sl ([.ref q0]) ++ List.replicate (1 - (lg_sl ([.ref q0])).length) Slot.unset).toArray = ls at hl ⊢
  have hl : lv_has ls 1 [(0, .ref q0)] := hl
  unfold s_X6_forget at hs
  refine (?_ : ∀ (Hz : Heap) (lz : List Loc), va_P D vwCl (wS cI cZ cJ q0 q1 q2 q3 q4 q5 q6 q7 q8 x_slots x_built b_sw x_folding_on a_starts a_lengths a_overlaps x_area_length a_area_bytes x_spare_length a_spare_bytes) Hz → va_D Az (wS cI cZ cJ q0 q1 q2 q3 q4 q5 q6 q7 q8 x_slots x_built b_sw x_folding_on a_starts a_lengths a_overlaps x_area_length a_area_bytes x_spare_length a_spare_bytes) → va_S Az s.heap Hz lz → W p l e (headSpec wsX6_forget rm_X6_forget).room s m args below meth c Hz lz 0 0 (MQ below (QW D vwCl none wz Az) args s 0 0 Az) (F0 m 0 ls [])) s.heap [] hP hD hSz
  intro Hz lz hP hD hSz
  refine lv_aload_n hx hb dX6_forget_0 rfl (lv_at hl 0 rfl) ?_
  refine k_iconst (n := 0) hx hb dX6_forget_1 ?_
  refine va_put (ci := 6) (v := .int (iI 0)) (ty := .boolean) (C := RX6) (T := TX6) (N := 8) hx hb hts hiX6 tyX6 tyX6_ok nmX6 hown hK hP hD hSz 0 rfl rfl 7 (by decide) hf41 (fun _ h9 => h9) rfl (by decide +kernel) (narZ (by decide)) rfl (Nat.le_of_ble_eq_true rfl) dX6_forget_2 (fun Hz lz hP hD hSz => ?_)
  have hP : va_P D vwCl (wS cI cZ cJ q0 q1 q2 q3 q4 q5 q6 q7 q8 x_slots 0 b_sw x_folding_on a_starts a_lengths a_overlaps x_area_length a_area_bytes x_spare_length a_spare_bytes) Hz := hP
  have hD : va_D Az (wS cI cZ cJ q0 q1 q2 q3 q4 q5 q6 q7 q8 x_slots 0 b_sw x_folding_on a_starts a_lengths a_overlaps x_area_length a_area_bytes x_spare_length a_spare_bytes) := hD
  cases hs
  exact k_vret_w hx hb hr hlk (by rw [hw1]; exact hP) hSz dX6_forget_5 rfl
/-! X6_collect -/
set_option maxHeartbeats 4000000 in
set_option maxRecDepth 100000 in
theorem c_X6_collect (l : Launch) (D : va_G) (cI cZ cJ : ClassId) {q0 q1 q2 q3 q4 q5 q6 q7 q8 q9 q10 q11 q12 q13 : Nat} {x_slots : Int} {x_built : Int} {b_sw : Bool} {x_folding_on : Int} {a_starts : (Int → Int)} {a_lengths : (Int → Int)} {a_overlaps : (Int → Int)} {x_area_length : Int} {a_area_bytes : (Int → Int)} {x_spare_length : Int} {a_spare_bytes : (Int → Int)} {x_arg0_given : Int} {x_arg0_alive : Int} {a_arg0_bytes : (Int → Int)} {a_arg0_lengths : (Int → Int)} {a_arg0_weights : (Int → Int)} {a_arg0_lives : (Int → Int)} {y_x_slots : Int} {y_a_starts : (Int → Int)} {y_a_lengths : (Int → Int)} {y_x_area_length : Int} {y_a_area_bytes : (Int → Int)} {sz : Nat} (hs : s_X6_collect x_slots x_folding_on a_starts a_lengths x_area_length a_area_bytes x_arg0_given a_arg0_bytes a_arg0_lengths a_arg0_lives = some (y_x_slots, y_a_starts, y_a_lengths, y_x_area_length, y_a_area_bytes)) : Met l yX6_collect wsX6_collect rm_X6_collect (PW D vwCl [(cI, .int), (cZ, .boolean), (cJ, .long)] [.ref q0, .ref q9] (wSK cI cZ cJ q0 q1 q2 q3 q4 q5 q6 q7 q8 q9 q10 q11 q12 q13 x_slots x_built b_sw x_folding_on a_starts a_lengths a_overlaps x_area_length a_area_bytes x_spare_length a_spare_bytes x_arg0_given x_arg0_alive a_arg0_bytes a_arg0_lengths a_arg0_weights a_arg0_lives) sz) (QW D vwCl none (wSK cI cZ cJ q0 q1 q2 q3 q4 q5 q6 q7 q8 q9 q10 q11 q12 q13 y_x_slots x_built b_sw x_folding_on y_a_starts y_a_lengths a_overlaps y_x_area_length y_a_area_bytes x_spare_length a_spare_bytes x_arg0_given x_arg0_alive a_arg0_bytes a_arg0_lengths a_arg0_weights a_arg0_lives) (va_A (wSK cI cZ cJ q0 q1 q2 q3 q4 q5 q6 q7 q8 q9 q10 q11 q12 q13 x_slots x_built b_sw x_folding_on a_starts a_lengths a_overlaps x_area_length a_area_bytes x_spare_length a_spare_bytes x_arg0_given x_arg0_alive a_arg0_bytes a_arg0_lengths a_arg0_weights a_arg0_lives) sz)) 0 0 (va_A (wSK cI cZ cJ q0 q1 q2 q3 q4 q5 q6 q7 q8 q9 q10 q11 q12 q13 x_slots x_built b_sw x_folding_on a_starts a_lengths a_overlaps x_area_length a_area_bytes x_spare_length a_spare_bytes x_arg0_given x_arg0_alive a_arg0_bytes a_arg0_lengths a_arg0_weights a_arg0_lives) sz) := by
  refine Met.ofW (cc := cX6_collect) (maxL := 3) (ret := none) (by decide) rfl ?_
  intro p e s m args below meth c s₁ B hml hv
  obtain ⟨hav, hsz, hP, hK, hD0⟩ := hv
  have hx := B.exec
  have hb := B.bytes
  have hr := B.returns
  have hts := atoms_spec (ws := wsX6_collect) B.pre
  have hown : s.vm.findClass RX6 = some m.cls := findClass_of_methodNamed B.named
  have hlk := B.notSynchronized
  have hf30 : (Cond.fieldLink RX6 30 "KeywordMatcher$Superstring" "area" "LKeywordMatcher$ByteRow;").before args s = true := hts _ (List.mem_of_getElem? (i := 1) rfl)
  have hiX6 : ∀ w ∈ wsX60, w ∈ wsX6_collect := fun w h => List.mem_cons_of_mem _ (List.mem_append_left _ (List.mem_append_left _ (List.mem_append_left _ (List.mem_append_right _ h))))
  have hf37 : (Cond.fieldLink RX6 37 "KeywordMatcher$Superstring" "slots" "I").before args s = true := hts _ (List.mem_of_getElem? (i := 2) rfl)
  have hf63 : (Cond.fieldLink RX6 63 "KeywordMatcher$Keywords" "given" "I").before args s = true := hts _ (List.mem_of_getElem? (i := 3) rfl)
  have hiX3 : ∀ w ∈ wsX30, w ∈ wsX6_collect := fun w h => List.mem_cons_of_mem _ (List.mem_append_left _ (List.mem_append_left _ (List.mem_append_right _ h)))
  have hf15 : (Cond.fieldLink RX6 15 "KeywordMatcher$Superstring" "starts" "[I").before args s = true := hts _ (List.mem_of_getElem? (i := 4) rfl)
  have hf75 : (Cond.fieldLink RX6 75 "KeywordMatcher$ByteRow" "length" "I").before args s = true := hts _ (List.mem_of_getElem? (i := 5) rfl)
  have hiX1 : ∀ w ∈ wsX10, w ∈ wsX6_collect := fun w h => List.mem_cons_of_mem _ (List.mem_append_left _ (List.mem_append_right _ h))
  have hf19 : (Cond.fieldLink RX6 19 "KeywordMatcher$Superstring" "lengths" "[I").before args s = true := hts _ (List.mem_of_getElem? (i := 6) rfl)
  have hf82 : (Cond.fieldLink RX6 82 "KeywordMatcher$Keywords" "bytes" "[I").before args s = true := hts _ (List.mem_of_getElem? (i := 7) rfl)
  subst hsz
  have hD := hD0.self (sz := s.heap.size)
  generalize hAe : va_A (wSK cI cZ cJ q0 q1 q2 q3 q4 q5 q6 q7 q8 q9 q10 q11 q12 q13 x_slots x_built b_sw x_folding_on a_starts a_lengths a_overlaps x_area_length a_area_bytes x_spare_length a_spare_bytes x_arg0_given x_arg0_alive a_arg0_bytes a_arg0_lengths a_arg0_weights a_arg0_lives) s.heap.size = Az at hD ⊢
  have hA : ∀ q : Nat, s.heap.size ≤ q → Az q := fun q h => by rw [← hAe]; exact Or.inr h
  clear hAe
  have hSz : va_S Az s.heap s.heap [] := va_S.rf
  obtain ⟨wz, hw1⟩ : ∃ z : va_W, z = (wSK cI cZ cJ q0 q1 q2 q3 q4 q5 q6 q7 q8 q9 q10 q11 q12 q13 y_x_slots x_built b_sw x_folding_on y_a_starts y_a_lengths a_overlaps y_x_area_length y_a_area_bytes x_spare_length a_spare_bytes x_arg0_given x_arg0_alive a_arg0_bytes a_arg0_lengths a_arg0_weights a_arg0_lives) := ⟨_, rfl⟩
  rw [← hw1]
  have hl := lv_entry ([.ref q0, .ref q9]) (n := 3) (Nat.le_of_ble_eq_true rfl)
  rw [show entryFrame m args 3 = entryFrame m ([.ref q0, .ref q9] : List Value).toArray 3 from by rw [hav], lg_entry_eq]
  generalize (lg_sl ([.ref q0, .ref q9]) ++ List.replicate (3 - (lg_sl ([.ref q0, .ref q9])).length) Slot.unset).toArray = ls at hl ⊢
  have hl : lv_has ls 3 [(0, .ref q0), (1, .ref q9)] := hl
  unfold s_X6_collect at hs
  have Lz14 : ∀ (fu : Nat) (x_slots : Int) (a_starts : (Int → Int)) (a_lengths : (Int → Int)) (x_area_length : Int) (a_area_bytes : (Int → Int)) (l2 : Int) (y0 : Int) (y1 : (Int → Int)) (y2 : (Int → Int)) (y3 : Int) (y4 : (Int → Int)), s_X6_collect_14 fu x_slots x_folding_on a_starts a_lengths x_area_length a_area_bytes x_arg0_given a_arg0_bytes a_arg0_lengths a_arg0_lives l2 = some (y0, y1, y2, y3, y4) → ∀ (Hz : Heap) (lz : List Loc), va_P D vwCl (wSK cI cZ cJ q0 q1 q2 q3 q4 q5 q6 q7 q8 q9 q10 q11 q12 q13 x_slots x_built b_sw x_folding_on a_starts a_lengths a_overlaps x_area_length a_area_bytes x_spare_length a_spare_bytes x_arg0_given x_arg0_alive a_arg0_bytes a_arg0_lengths a_arg0_weights a_arg0_lives) Hz → va_D Az (wSK cI cZ cJ q0 q1 q2 q3 q4 q5 q6 q7 q8 q9 q10 q11 q12 q13 x_slots x_built b_sw x_folding_on a_starts a_lengths a_overlaps x_area_length a_area_bytes x_spare_length a_spare_bytes x_arg0_given x_arg0_alive a_arg0_bytes a_arg0_lengths a_arg0_weights a_arg0_lives) → va_S Az s.heap Hz lz → ∀ ls : Array Slot, lv_has ls 3 [(0, .ref q0), (1, .ref q9), (2, .int (iI l2))] → (∀ (Hz : Heap) (lz : List Loc), va_P D vwCl (wSK cI cZ cJ q0 q1 q2 q3 q4 q5 q6 q7 q8 q9 q10 q11 q12 q13 y0 x_built b_sw x_folding_on y1 y2 a_overlaps y3 y4 x_spare_length a_spare_bytes x_arg0_given x_arg0_alive a_arg0_bytes a_arg0_lengths a_arg0_weights a_arg0_lives) Hz → va_D Az (wSK cI cZ cJ q0 q1 q2 q3 q4 q5 q6 q7 q8 q9 q10 q11 q12 q13 y0 x_built b_sw x_folding_on y1 y2 a_overlaps y3 y4 x_spare_length a_spare_bytes x_arg0_given x_arg0_alive a_arg0_bytes a_arg0_lengths a_arg0_weights a_arg0_lives) → va_S Az s.heap Hz lz → ∀ ls : Array Slot, lv_has ls 3 [] → W p l e (headSpec wsX6_collect rm_X6_collect).room s m args below meth c Hz lz 0 0 (MQ below (QW D vwCl none wz Az) args s 0 0 Az) (F0 m 114 ls [])) → W p l e (headSpec wsX6_collect rm_X6_collect).room s m args below meth c Hz lz 0 0 (MQ below (QW D vwCl none wz Az) args s 0 0 Az) (F0 m 14 ls []) := by
    intro fu
    induction fu with
    | zero => intro x_slots a_starts a_lengths x_area_length a_area_bytes l2 y0 y1 y2 y3 y4 hs; cases hs
    | succ fu ih =>
      intro x_slots a_starts a_lengths x_area_length a_area_bytes l2 y0 y1 y2 y3 y4 hs Hz lz hP hD hSz ls hl kx
      rw [s_X6_collect_14_s] at hs
      refine lv_iload_n hx hb dX6_collect_14 rfl (lv_at hl 2 rfl) ?_
      refine lv_aload_n hx hb dX6_collect_15 rfl (lv_at hl 1 rfl) ?_
      refine va_get (ci := 3) (v := .int (iI x_arg0_given)) (C := RX3) (T := TX3) (N := 7) hx hb hts hiX3 hown hK hP 9 rfl rfl 5 (by decide) hf63 (fun _ h9 => h9) rfl dX6_collect_16 ?_
      refine k_icmp_ge (tgt := 114) hx hb hs dX6_collect_19 (by decide) (fun hs => ?_) (fun hs => ?_)
      · refine lv_aload_n hx hb dX6_collect_22 rfl (lv_at hl 0 rfl) ?_
        refine va_get (ci := 6) (v := .int (iI x_slots)) (C := RX6) (T := TX6) (N := 8) hx hb hts hiX6 hown hK hP 0 rfl rfl 6 (by decide) hf37 (fun _ h9 => h9) rfl dX6_collect_23 ?_
        refine k_bipush (n := 40) hx hb (by decide) dX6_collect_26 ?_
        refine k_icmp_ge (tgt := 108) hx hb hs dX6_collect_28 (by decide) (fun hs => ?_) (fun hs => ?_)
        · refine lv_aload_n hx hb dX6_collect_31 rfl (lv_at hl 1 rfl) ?_
          refine lv_iload_n hx hb dX6_collect_32 rfl (lv_at hl 2 rfl) ?_
          obtain ⟨vz2, hcz, hs⟩ := bd1_some hs
          have hPc : va_P D vwCl [(q9, .inr (3, [.ref q1, .ref q10, .ref q11, .ref q12, .ref q13, .int (iI x_arg0_given), .int (iI x_arg0_alive)])), (q1, .inr (2, [.int (iI x_folding_on)])), (q10, .inl (cI, 1920, .inl (mI a_arg0_bytes))), (q11, .inl (cI, 120, .inl (mI a_arg0_lengths))), (q12, .inl (cI, 120, .inl (mI a_arg0_weights))), (q13, .inl (cZ, 120, .inl (mI a_arg0_lives)))] Hz := hP.sub [9, 1, 10, 11, 12, 13] rfl
          refine k_rV (As := [.int (iI l2)]) (rest := []) (st1 := [.int (iI vz2)]) ⟨hx, hb, hml, hown, hts⟩ hK hPc (c_X3_isAlive l D cI cZ cJ hcz) (cwV 1 hts gX6_collect_X3_isAlive rfl rfl rfl (by decide +kernel) ⟨Nat.le_of_ble_eq_true rfl, Nat.le_of_ble_eq_true rfl⟩) 0 rfl rfl rfl rfl hl.1 rfl (lv_room (Nat.le_of_ble_eq_true rfl)) dX6_collect_33 ⟨Nat.zero_le _, Nat.zero_le _⟩ rfl ?_
          refine k_if_eq (tgt := 108) hx hb hs dX6_collect_36 (by decide) (fun hs => ?_) (fun hs => ?_)
          · refine k_iinc (x := l2) (k := 2) (lv' := [(2, .int (iI (l2 + 1))), (0, .ref q0), (1, .ref q9)]) hx hb dX6_collect_108 hl rfl (by decide) rfl (fun ls hl => ?_)
            refine lv_goto (tgt := 14) hx hb dX6_collect_111 (by decide) ?_
            exact ih x_slots a_starts a_lengths x_area_length a_area_bytes (l2 + 1) y0 y1 y2 y3 y4 hs Hz lz hP hD hSz ls (lv_sub hl [1, 2, 0] rfl) kx
          · refine lv_aload_n hx hb dX6_collect_39 rfl (lv_at hl 1 rfl) ?_
            refine lv_iload_n hx hb dX6_collect_40 rfl (lv_at hl 2 rfl) ?_
            obtain ⟨vz3, hcz, hs⟩ := bd1_some hs
            have hPc : va_P D vwCl [(q9, .inr (3, [.ref q1, .ref q10, .ref q11, .ref q12, .ref q13, .int (iI x_arg0_given), .int (iI x_arg0_alive)])), (q1, .inr (2, [.int (iI x_folding_on)])), (q10, .inl (cI, 1920, .inl (mI a_arg0_bytes))), (q11, .inl (cI, 120, .inl (mI a_arg0_lengths))), (q12, .inl (cI, 120, .inl (mI a_arg0_weights))), (q13, .inl (cZ, 120, .inl (mI a_arg0_lives)))] Hz := hP.sub [9, 1, 10, 11, 12, 13] rfl
            refine k_rV (As := [.int (iI l2)]) (rest := []) (st1 := [.int (iI vz3)]) ⟨hx, hb, hml, hown, hts⟩ hK hPc (c_X3_isInsideAnother l D cI cZ cJ hcz) (cwV 1 hts gX6_collect_X3_isInsideAnother rfl rfl rfl (by decide +kernel) ⟨Nat.le_of_ble_eq_true rfl, Nat.le_of_ble_eq_true rfl⟩) 0 rfl rfl rfl rfl hl.1 rfl (lv_room (Nat.le_of_ble_eq_true rfl)) dX6_collect_41 ⟨Nat.zero_le _, Nat.zero_le _⟩ rfl ?_
            refine k_if_ne (tgt := 108) hx hb hs dX6_collect_44 (by decide) (fun hs => ?_) (fun hs => ?_)
            · refine lv_aload_n hx hb dX6_collect_47 rfl (lv_at hl 0 rfl) ?_
              refine va_get (ci := 6) (v := .ref q2) (C := RX6) (T := TX6) (N := 8) hx hb hts hiX6 hown hK hP 0 rfl rfl 1 (by decide) hf15 (fun _ h9 => h9) rfl dX6_collect_48 ?_
              refine lv_aload_n hx hb dX6_collect_51 rfl (lv_at hl 0 rfl) ?_
              refine va_get (ci := 6) (v := .int (iI x_slots)) (C := RX6) (T := TX6) (N := 8) hx hb hts hiX6 hown hK hP 0 rfl rfl 6 (by decide) hf37 (fun _ h9 => h9) rfl dX6_collect_52 ?_
              refine lv_aload_n hx hb dX6_collect_55 rfl (lv_at hl 0 rfl) ?_
              cases b_sw with
              | false =>
                refine va_get (ci := 6) (v := .ref q5) (C := RX6) (T := TX6) (N := 8) hx hb hts hiX6 hown hK hP 0 rfl rfl 4 (by decide) hf30 (fun _ h9 => h9) rfl dX6_collect_56 ?_
                refine va_get (ci := 1) (v := .int (iI x_area_length)) (C := RX1) (T := TX1) (N := 2) hx hb hts hiX1 hown hK hP 5 rfl rfl 1 (by decide) hf75 (fun _ h9 => h9) rfl dX6_collect_59 ?_
                refine k_iast hx hb hK hP hD hSz 2 0 rfl rfl (Nat.le_of_ble_eq_true rfl) hs dX6_collect_62 (fun Hz lz hP hD hSz hs => ?_)
                have hP : va_P D vwCl (wSK cI cZ cJ q0 q1 q2 q3 q4 q5 q6 q7 q8 q9 q10 q11 q12 q13 x_slots x_built false x_folding_on (upA a_starts x_slots x_area_length) a_lengths a_overlaps x_area_length a_area_bytes x_spare_length a_spare_bytes x_arg0_given x_arg0_alive a_arg0_bytes a_arg0_lengths a_arg0_weights a_arg0_lives) Hz := hP
                have hD : va_D Az (wSK cI cZ cJ q0 q1 q2 q3 q4 q5 q6 q7 q8 q9 q10 q11 q12 q13 x_slots x_built false x_folding_on (upA a_starts x_slots x_area_length) a_lengths a_overlaps x_area_length a_area_bytes x_spare_length a_spare_bytes x_arg0_given x_arg0_alive a_arg0_bytes a_arg0_lengths a_arg0_weights a_arg0_lives) := hD
                refine lv_aload_n hx hb dX6_collect_63 rfl (lv_at hl 0 rfl) ?_
                refine va_get (ci := 6) (v := .ref q3) (C := RX6) (T := TX6) (N := 8) hx hb hts hiX6 hown hK hP 0 rfl rfl 2 (by decide) hf19 (fun _ h9 => h9) rfl dX6_collect_64 ?_
                refine lv_aload_n hx hb dX6_collect_67 rfl (lv_at hl 0 rfl) ?_
                refine va_get (ci := 6) (v := .int (iI x_slots)) (C := RX6) (T := TX6) (N := 8) hx hb hts hiX6 hown hK hP 0 rfl rfl 6 (by decide) hf37 (fun _ h9 => h9) rfl dX6_collect_68 ?_
                refine lv_aload_n hx hb dX6_collect_71 rfl (lv_at hl 1 rfl) ?_
                refine lv_iload_n hx hb dX6_collect_72 rfl (lv_at hl 2 rfl) ?_
                obtain ⟨vz4, hcz, hs⟩ := bd1_some hs
                have hPc : va_P D vwCl [(q9, .inr (3, [.ref q1, .ref q10, .ref q11, .ref q12, .ref q13, .int (iI x_arg0_given), .int (iI x_arg0_alive)])), (q1, .inr (2, [.int (iI x_folding_on)])), (q10, .inl (cI, 1920, .inl (mI a_arg0_bytes))), (q11, .inl (cI, 120, .inl (mI a_arg0_lengths))), (q12, .inl (cI, 120, .inl (mI a_arg0_weights))), (q13, .inl (cZ, 120, .inl (mI a_arg0_lives)))] Hz := hP.sub [9, 1, 10, 11, 12, 13] rfl
                refine k_rV (As := [.int (iI l2)]) (rest := [.int (iI x_slots), .ref q3]) (st1 := [.int (iI vz4), .int (iI x_slots), .ref q3]) ⟨hx, hb, hml, hown, hts⟩ hK hPc (c_X3_lengthOf l D cI cZ cJ hcz) (cwV 1 hts gX6_collect_X3_lengthOf rfl rfl rfl (by decide +kernel) ⟨Nat.le_of_ble_eq_true rfl, Nat.le_of_ble_eq_true rfl⟩) 0 rfl rfl rfl rfl hl.1 rfl (lv_room (Nat.le_of_ble_eq_true rfl)) dX6_collect_73 ⟨Nat.zero_le _, Nat.zero_le _⟩ rfl ?_
                refine k_iast hx hb hK hP hD hSz 3 0 rfl rfl (Nat.le_of_ble_eq_true rfl) hs dX6_collect_76 (fun Hz lz hP hD hSz hs => ?_)
                have hP : va_P D vwCl (wSK cI cZ cJ q0 q1 q2 q3 q4 q5 q6 q7 q8 q9 q10 q11 q12 q13 x_slots x_built false x_folding_on (upA a_starts x_slots x_area_length) (upA a_lengths x_slots vz4) a_overlaps x_area_length a_area_bytes x_spare_length a_spare_bytes x_arg0_given x_arg0_alive a_arg0_bytes a_arg0_lengths a_arg0_weights a_arg0_lives) Hz := hP
                have hD : va_D Az (wSK cI cZ cJ q0 q1 q2 q3 q4 q5 q6 q7 q8 q9 q10 q11 q12 q13 x_slots x_built false x_folding_on (upA a_starts x_slots x_area_length) (upA a_lengths x_slots vz4) a_overlaps x_area_length a_area_bytes x_spare_length a_spare_bytes x_arg0_given x_arg0_alive a_arg0_bytes a_arg0_lengths a_arg0_weights a_arg0_lives) := hD
                refine lv_aload_n hx hb dX6_collect_77 rfl (lv_at hl 0 rfl) ?_
                refine lv_dup hx hb dX6_collect_78 rfl ?_
                refine va_get (ci := 6) (v := .int (iI x_slots)) (C := RX6) (T := TX6) (N := 8) hx hb hts hiX6 hown hK hP 0 rfl rfl 6 (by decide) hf37 (fun _ h9 => h9) rfl dX6_collect_79 ?_
                refine k_iconst (n := 1) hx hb dX6_collect_82 ?_
                refine k_iadd hx hb dX6_collect_83 ?_
                refine va_put (ci := 6) (v := .int (iI (x_slots + 1))) (ty := .int) (C := RX6) (T := TX6) (N := 8) hx hb hts hiX6 tyX6 tyX6_ok nmX6 hown hK hP hD hSz 0 rfl rfl 6 (by decide) hf37 (fun _ h9 => h9) rfl (by decide +kernel) rfl rfl (Nat.le_of_ble_eq_true rfl) dX6_collect_84 (fun Hz lz hP hD hSz => ?_)
                have hP : va_P D vwCl (wSK cI cZ cJ q0 q1 q2 q3 q4 q5 q6 q7 q8 q9 q10 q11 q12 q13 (x_slots + 1) x_built false x_folding_on (upA a_starts x_slots x_area_length) (upA a_lengths x_slots vz4) a_overlaps x_area_length a_area_bytes x_spare_length a_spare_bytes x_arg0_given x_arg0_alive a_arg0_bytes a_arg0_lengths a_arg0_weights a_arg0_lives) Hz := hP
                have hD : va_D Az (wSK cI cZ cJ q0 q1 q2 q3 q4 q5 q6 q7 q8 q9 q10 q11 q12 q13 (x_slots + 1) x_built false x_folding_on (upA a_starts x_slots x_area_length) (upA a_lengths x_slots vz4) a_overlaps x_area_length a_area_bytes x_spare_length a_spare_bytes x_arg0_given x_arg0_alive a_arg0_bytes a_arg0_lengths a_arg0_weights a_arg0_lives) := hD
                refine lv_aload_n hx hb dX6_collect_87 rfl (lv_at hl 0 rfl) ?_
                refine va_get (ci := 6) (v := .ref q5) (C := RX6) (T := TX6) (N := 8) hx hb hts hiX6 hown hK hP 0 rfl rfl 4 (by decide) hf30 (fun _ h9 => h9) rfl dX6_collect_88 ?_
                refine lv_aload_n hx hb dX6_collect_91 rfl (lv_at hl 1 rfl) ?_
                refine va_get (ci := 3) (v := .ref q10) (C := RX3) (T := TX3) (N := 7) hx hb hts hiX3 hown hK hP 9 rfl rfl 1 (by decide) hf82 (fun _ h9 => h9) rfl dX6_collect_92 ?_
                refine lv_aload_n hx hb dX6_collect_95 rfl (lv_at hl 1 rfl) ?_
                refine lv_iload_n hx hb dX6_collect_96 rfl (lv_at hl 2 rfl) ?_
                obtain ⟨vz5, hcz, hs⟩ := bd1_some hs
                have hPc : va_P D vwCl [(q9, .inr (3, [.ref q1, .ref q10, .ref q11, .ref q12, .ref q13, .int (iI x_arg0_given), .int (iI x_arg0_alive)])), (q1, .inr (2, [.int (iI x_folding_on)])), (q10, .inl (cI, 1920, .inl (mI a_arg0_bytes))), (q11, .inl (cI, 120, .inl (mI a_arg0_lengths))), (q12, .inl (cI, 120, .inl (mI a_arg0_weights))), (q13, .inl (cZ, 120, .inl (mI a_arg0_lives)))] Hz := hP.sub [9, 1, 10, 11, 12, 13] rfl
                refine k_rV (As := [.int (iI l2)]) (rest := [.ref q10, .ref q5]) (st1 := [.int (iI vz5), .ref q10, .ref q5]) ⟨hx, hb, hml, hown, hts⟩ hK hPc (c_X3_firstByteOf l D cI cZ cJ hcz) (cwV 1 hts gX6_collect_X3_firstByteOf rfl rfl rfl (by decide +kernel) ⟨Nat.le_of_ble_eq_true rfl, Nat.le_of_ble_eq_true rfl⟩) 0 rfl rfl rfl rfl hl.1 rfl (lv_room (Nat.le_of_ble_eq_true rfl)) dX6_collect_97 ⟨Nat.zero_le _, Nat.zero_le _⟩ rfl ?_
                refine lv_aload_n hx hb dX6_collect_100 rfl (lv_at hl 1 rfl) ?_
                refine lv_iload_n hx hb dX6_collect_101 rfl (lv_at hl 2 rfl) ?_
                obtain ⟨vz6, hcz, hs⟩ := bd1_some hs
                have hPc : va_P D vwCl [(q9, .inr (3, [.ref q1, .ref q10, .ref q11, .ref q12, .ref q13, .int (iI x_arg0_given), .int (iI x_arg0_alive)])), (q1, .inr (2, [.int (iI x_folding_on)])), (q10, .inl (cI, 1920, .inl (mI a_arg0_bytes))), (q11, .inl (cI, 120, .inl (mI a_arg0_lengths))), (q12, .inl (cI, 120, .inl (mI a_arg0_weights))), (q13, .inl (cZ, 120, .inl (mI a_arg0_lives)))] Hz := hP.sub [9, 1, 10, 11, 12, 13] rfl
                refine k_rV (As := [.int (iI l2)]) (rest := [.int (iI vz5), .ref q10, .ref q5]) (st1 := [.int (iI vz6), .int (iI vz5), .ref q10, .ref q5]) ⟨hx, hb, hml, hown, hts⟩ hK hPc (c_X3_lengthOf l D cI cZ cJ hcz) (cwV 1 hts gX6_collect_X3_lengthOf rfl rfl rfl (by decide +kernel) ⟨Nat.le_of_ble_eq_true rfl, Nat.le_of_ble_eq_true rfl⟩) 0 rfl rfl rfl rfl hl.1 rfl (lv_room (Nat.le_of_ble_eq_true rfl)) dX6_collect_102 ⟨Nat.zero_le _, Nat.zero_le _⟩ rfl ?_
                obtain ⟨vz7, vz8, hcz, hs⟩ := bd2_some hs
                refine k_wV (As := [.ref q10, .int (iI vz5), .int (iI vz6)]) (rest := []) (st1 := []) (wc := [(q5, .inr (1, [.ref q6, .int (iI x_area_length)])), (q6, .inl (cI, 640, .inl (mI a_area_bytes))), (q10, .inl (cI, 1920, .inl (mI a_arg0_bytes)))]) (w1 := [(q5, .inr (1, [.ref q6, .int (iI vz7)])), (q6, .inl (cI, 640, .inl (mI vz8))), (q10, .inl (cI, 1920, .inl (mI a_arg0_bytes)))]) ⟨hx, hb, hml, hown, hts⟩ hK hP hD hSz hA [5, 6, 10] rfl (by decide) (c_X1_appendRun l D cI cZ cJ (Nat.le_of_ble_eq_true rfl) (Nat.le_of_ble_eq_true rfl) hcz) (cwV 3 hts gX6_collect_X1_appendRun rfl rfl rfl (by decide +kernel) ⟨Nat.le_of_ble_eq_true rfl, Nat.le_of_ble_eq_true rfl⟩) 5 rfl rfl rfl rfl rfl hl.1 rfl (lv_room (Nat.le_of_ble_eq_true rfl)) dX6_collect_105 ⟨Nat.zero_le _, Nat.zero_le _⟩ rfl (fun Hz lz hP hD hSz => ?_)
                have hP : va_P D vwCl (wSK cI cZ cJ q0 q1 q2 q3 q4 q5 q6 q7 q8 q9 q10 q11 q12 q13 (x_slots + 1) x_built false x_folding_on (upA a_starts x_slots x_area_length) (upA a_lengths x_slots vz4) a_overlaps vz7 vz8 x_spare_length a_spare_bytes x_arg0_given x_arg0_alive a_arg0_bytes a_arg0_lengths a_arg0_weights a_arg0_lives) Hz := hP
                have hD : va_D Az (wSK cI cZ cJ q0 q1 q2 q3 q4 q5 q6 q7 q8 q9 q10 q11 q12 q13 (x_slots + 1) x_built false x_folding_on (upA a_starts x_slots x_area_length) (upA a_lengths x_slots vz4) a_overlaps vz7 vz8 x_spare_length a_spare_bytes x_arg0_given x_arg0_alive a_arg0_bytes a_arg0_lengths a_arg0_weights a_arg0_lives) := hD
                refine k_iinc (x := l2) (k := 2) (lv' := [(2, .int (iI (l2 + 1))), (0, .ref q0), (1, .ref q9)]) hx hb dX6_collect_108 hl rfl (by decide) rfl (fun ls hl => ?_)
                refine lv_goto (tgt := 14) hx hb dX6_collect_111 (by decide) ?_
                exact ih (x_slots + 1) (upA a_starts x_slots x_area_length) (upA a_lengths x_slots vz4) vz7 vz8 (l2 + 1) y0 y1 y2 y3 y4 hs Hz lz hP hD hSz ls (lv_sub hl [1, 2, 0] rfl) kx
              | true =>
                refine va_get (ci := 6) (v := .ref q7) (C := RX6) (T := TX6) (N := 8) hx hb hts hiX6 hown hK hP 0 rfl rfl 4 (by decide) hf30 (fun _ h9 => h9) rfl dX6_collect_56 ?_
                refine va_get (ci := 1) (v := .int (iI x_area_length)) (C := RX1) (T := TX1) (N := 2) hx hb hts hiX1 hown hK hP 7 rfl rfl 1 (by decide) hf75 (fun _ h9 => h9) rfl dX6_collect_59 ?_
                refine k_iast hx hb hK hP hD hSz 2 0 rfl rfl (Nat.le_of_ble_eq_true rfl) hs dX6_collect_62 (fun Hz lz hP hD hSz hs => ?_)
                have hP : va_P D vwCl (wSK cI cZ cJ q0 q1 q2 q3 q4 q5 q6 q7 q8 q9 q10 q11 q12 q13 x_slots x_built true x_folding_on (upA a_starts x_slots x_area_length) a_lengths a_overlaps x_area_length a_area_bytes x_spare_length a_spare_bytes x_arg0_given x_arg0_alive a_arg0_bytes a_arg0_lengths a_arg0_weights a_arg0_lives) Hz := hP
                have hD : va_D Az (wSK cI cZ cJ q0 q1 q2 q3 q4 q5 q6 q7 q8 q9 q10 q11 q12 q13 x_slots x_built true x_folding_on (upA a_starts x_slots x_area_length) a_lengths a_overlaps x_area_length a_area_bytes x_spare_length a_spare_bytes x_arg0_given x_arg0_alive a_arg0_bytes a_arg0_lengths a_arg0_weights a_arg0_lives) := hD
                refine lv_aload_n hx hb dX6_collect_63 rfl (lv_at hl 0 rfl) ?_
                refine va_get (ci := 6) (v := .ref q3) (C := RX6) (T := TX6) (N := 8) hx hb hts hiX6 hown hK hP 0 rfl rfl 2 (by decide) hf19 (fun _ h9 => h9) rfl dX6_collect_64 ?_
                refine lv_aload_n hx hb dX6_collect_67 rfl (lv_at hl 0 rfl) ?_
                refine va_get (ci := 6) (v := .int (iI x_slots)) (C := RX6) (T := TX6) (N := 8) hx hb hts hiX6 hown hK hP 0 rfl rfl 6 (by decide) hf37 (fun _ h9 => h9) rfl dX6_collect_68 ?_
                refine lv_aload_n hx hb dX6_collect_71 rfl (lv_at hl 1 rfl) ?_
                refine lv_iload_n hx hb dX6_collect_72 rfl (lv_at hl 2 rfl) ?_
                obtain ⟨vz9, hcz, hs⟩ := bd1_some hs
                have hPc : va_P D vwCl [(q9, .inr (3, [.ref q1, .ref q10, .ref q11, .ref q12, .ref q13, .int (iI x_arg0_given), .int (iI x_arg0_alive)])), (q1, .inr (2, [.int (iI x_folding_on)])), (q10, .inl (cI, 1920, .inl (mI a_arg0_bytes))), (q11, .inl (cI, 120, .inl (mI a_arg0_lengths))), (q12, .inl (cI, 120, .inl (mI a_arg0_weights))), (q13, .inl (cZ, 120, .inl (mI a_arg0_lives)))] Hz := hP.sub [9, 1, 10, 11, 12, 13] rfl
                refine k_rV (As := [.int (iI l2)]) (rest := [.int (iI x_slots), .ref q3]) (st1 := [.int (iI vz9), .int (iI x_slots), .ref q3]) ⟨hx, hb, hml, hown, hts⟩ hK hPc (c_X3_lengthOf l D cI cZ cJ hcz) (cwV 1 hts gX6_collect_X3_lengthOf rfl rfl rfl (by decide +kernel) ⟨Nat.le_of_ble_eq_true rfl, Nat.le_of_ble_eq_true rfl⟩) 0 rfl rfl rfl rfl hl.1 rfl (lv_room (Nat.le_of_ble_eq_true rfl)) dX6_collect_73 ⟨Nat.zero_le _, Nat.zero_le _⟩ rfl ?_
                refine k_iast hx hb hK hP hD hSz 3 0 rfl rfl (Nat.le_of_ble_eq_true rfl) hs dX6_collect_76 (fun Hz lz hP hD hSz hs => ?_)
                have hP : va_P D vwCl (wSK cI cZ cJ q0 q1 q2 q3 q4 q5 q6 q7 q8 q9 q10 q11 q12 q13 x_slots x_built true x_folding_on (upA a_starts x_slots x_area_length) (upA a_lengths x_slots vz9) a_overlaps x_area_length a_area_bytes x_spare_length a_spare_bytes x_arg0_given x_arg0_alive a_arg0_bytes a_arg0_lengths a_arg0_weights a_arg0_lives) Hz := hP
                have hD : va_D Az (wSK cI cZ cJ q0 q1 q2 q3 q4 q5 q6 q7 q8 q9 q10 q11 q12 q13 x_slots x_built true x_folding_on (upA a_starts x_slots x_area_length) (upA a_lengths x_slots vz9) a_overlaps x_area_length a_area_bytes x_spare_length a_spare_bytes x_arg0_given x_arg0_alive a_arg0_bytes a_arg0_lengths a_arg0_weights a_arg0_lives) := hD
                refine lv_aload_n hx hb dX6_collect_77 rfl (lv_at hl 0 rfl) ?_
                refine lv_dup hx hb dX6_collect_78 rfl ?_
                refine va_get (ci := 6) (v := .int (iI x_slots)) (C := RX6) (T := TX6) (N := 8) hx hb hts hiX6 hown hK hP 0 rfl rfl 6 (by decide) hf37 (fun _ h9 => h9) rfl dX6_collect_79 ?_
                refine k_iconst (n := 1) hx hb dX6_collect_82 ?_
                refine k_iadd hx hb dX6_collect_83 ?_
                refine va_put (ci := 6) (v := .int (iI (x_slots + 1))) (ty := .int) (C := RX6) (T := TX6) (N := 8) hx hb hts hiX6 tyX6 tyX6_ok nmX6 hown hK hP hD hSz 0 rfl rfl 6 (by decide) hf37 (fun _ h9 => h9) rfl (by decide +kernel) rfl rfl (Nat.le_of_ble_eq_true rfl) dX6_collect_84 (fun Hz lz hP hD hSz => ?_)
                have hP : va_P D vwCl (wSK cI cZ cJ q0 q1 q2 q3 q4 q5 q6 q7 q8 q9 q10 q11 q12 q13 (x_slots + 1) x_built true x_folding_on (upA a_starts x_slots x_area_length) (upA a_lengths x_slots vz9) a_overlaps x_area_length a_area_bytes x_spare_length a_spare_bytes x_arg0_given x_arg0_alive a_arg0_bytes a_arg0_lengths a_arg0_weights a_arg0_lives) Hz := hP
                have hD : va_D Az (wSK cI cZ cJ q0 q1 q2 q3 q4 q5 q6 q7 q8 q9 q10 q11 q12 q13 (x_slots + 1) x_built true x_folding_on (upA a_starts x_slots x_area_length) (upA a_lengths x_slots vz9) a_overlaps x_area_length a_area_bytes x_spare_length a_spare_bytes x_arg0_given x_arg0_alive a_arg0_bytes a_arg0_lengths a_arg0_weights a_arg0_lives) := hD
                refine lv_aload_n hx hb dX6_collect_87 rfl (lv_at hl 0 rfl) ?_
                refine va_get (ci := 6) (v := .ref q7) (C := RX6) (T := TX6) (N := 8) hx hb hts hiX6 hown hK hP 0 rfl rfl 4 (by decide) hf30 (fun _ h9 => h9) rfl dX6_collect_88 ?_
                refine lv_aload_n hx hb dX6_collect_91 rfl (lv_at hl 1 rfl) ?_
                refine va_get (ci := 3) (v := .ref q10) (C := RX3) (T := TX3) (N := 7) hx hb hts hiX3 hown hK hP 9 rfl rfl 1 (by decide) hf82 (fun _ h9 => h9) rfl dX6_collect_92 ?_
                refine lv_aload_n hx hb dX6_collect_95 rfl (lv_at hl 1 rfl) ?_
                refine lv_iload_n hx hb dX6_collect_96 rfl (lv_at hl 2 rfl) ?_
                obtain ⟨vz10, hcz, hs⟩ := bd1_some hs
                have hPc : va_P D vwCl [(q9, .inr (3, [.ref q1, .ref q10, .ref q11, .ref q12, .ref q13, .int (iI x_arg0_given), .int (iI x_arg0_alive)])), (q1, .inr (2, [.int (iI x_folding_on)])), (q10, .inl (cI, 1920, .inl (mI a_arg0_bytes))), (q11, .inl (cI, 120, .inl (mI a_arg0_lengths))), (q12, .inl (cI, 120, .inl (mI a_arg0_weights))), (q13, .inl (cZ, 120, .inl (mI a_arg0_lives)))] Hz := hP.sub [9, 1, 10, 11, 12, 13] rfl
                refine k_rV (As := [.int (iI l2)]) (rest := [.ref q10, .ref q7]) (st1 := [.int (iI vz10), .ref q10, .ref q7]) ⟨hx, hb, hml, hown, hts⟩ hK hPc (c_X3_firstByteOf l D cI cZ cJ hcz) (cwV 1 hts gX6_collect_X3_firstByteOf rfl rfl rfl (by decide +kernel) ⟨Nat.le_of_ble_eq_true rfl, Nat.le_of_ble_eq_true rfl⟩) 0 rfl rfl rfl rfl hl.1 rfl (lv_room (Nat.le_of_ble_eq_true rfl)) dX6_collect_97 ⟨Nat.zero_le _, Nat.zero_le _⟩ rfl ?_
                refine lv_aload_n hx hb dX6_collect_100 rfl (lv_at hl 1 rfl) ?_
                refine lv_iload_n hx hb dX6_collect_101 rfl (lv_at hl 2 rfl) ?_
                obtain ⟨vz11, hcz, hs⟩ := bd1_some hs
                have hPc : va_P D vwCl [(q9, .inr (3, [.ref q1, .ref q10, .ref q11, .ref q12, .ref q13, .int (iI x_arg0_given), .int (iI x_arg0_alive)])), (q1, .inr (2, [.int (iI x_folding_on)])), (q10, .inl (cI, 1920, .inl (mI a_arg0_bytes))), (q11, .inl (cI, 120, .inl (mI a_arg0_lengths))), (q12, .inl (cI, 120, .inl (mI a_arg0_weights))), (q13, .inl (cZ, 120, .inl (mI a_arg0_lives)))] Hz := hP.sub [9, 1, 10, 11, 12, 13] rfl
                refine k_rV (As := [.int (iI l2)]) (rest := [.int (iI vz10), .ref q10, .ref q7]) (st1 := [.int (iI vz11), .int (iI vz10), .ref q10, .ref q7]) ⟨hx, hb, hml, hown, hts⟩ hK hPc (c_X3_lengthOf l D cI cZ cJ hcz) (cwV 1 hts gX6_collect_X3_lengthOf rfl rfl rfl (by decide +kernel) ⟨Nat.le_of_ble_eq_true rfl, Nat.le_of_ble_eq_true rfl⟩) 0 rfl rfl rfl rfl hl.1 rfl (lv_room (Nat.le_of_ble_eq_true rfl)) dX6_collect_102 ⟨Nat.zero_le _, Nat.zero_le _⟩ rfl ?_
                obtain ⟨vz12, vz13, hcz, hs⟩ := bd2_some hs
                refine k_wV (As := [.ref q10, .int (iI vz10), .int (iI vz11)]) (rest := []) (st1 := []) (wc := [(q7, .inr (1, [.ref q8, .int (iI x_area_length)])), (q8, .inl (cI, 640, .inl (mI a_area_bytes))), (q10, .inl (cI, 1920, .inl (mI a_arg0_bytes)))]) (w1 := [(q7, .inr (1, [.ref q8, .int (iI vz12)])), (q8, .inl (cI, 640, .inl (mI vz13))), (q10, .inl (cI, 1920, .inl (mI a_arg0_bytes)))]) ⟨hx, hb, hml, hown, hts⟩ hK hP hD hSz hA [7, 8, 10] rfl (by decide) (c_X1_appendRun l D cI cZ cJ (Nat.le_of_ble_eq_true rfl) (Nat.le_of_ble_eq_true rfl) hcz) (cwV 3 hts gX6_collect_X1_appendRun rfl rfl rfl (by decide +kernel) ⟨Nat.le_of_ble_eq_true rfl, Nat.le_of_ble_eq_true rfl⟩) 7 rfl rfl rfl rfl rfl hl.1 rfl (lv_room (Nat.le_of_ble_eq_true rfl)) dX6_collect_105 ⟨Nat.zero_le _, Nat.zero_le _⟩ rfl (fun Hz lz hP hD hSz => ?_)
                have hP : va_P D vwCl (wSK cI cZ cJ q0 q1 q2 q3 q4 q5 q6 q7 q8 q9 q10 q11 q12 q13 (x_slots + 1) x_built true x_folding_on (upA a_starts x_slots x_area_length) (upA a_lengths x_slots vz9) a_overlaps vz12 vz13 x_spare_length a_spare_bytes x_arg0_given x_arg0_alive a_arg0_bytes a_arg0_lengths a_arg0_weights a_arg0_lives) Hz := hP
                have hD : va_D Az (wSK cI cZ cJ q0 q1 q2 q3 q4 q5 q6 q7 q8 q9 q10 q11 q12 q13 (x_slots + 1) x_built true x_folding_on (upA a_starts x_slots x_area_length) (upA a_lengths x_slots vz9) a_overlaps vz12 vz13 x_spare_length a_spare_bytes x_arg0_given x_arg0_alive a_arg0_bytes a_arg0_lengths a_arg0_weights a_arg0_lives) := hD
                refine k_iinc (x := l2) (k := 2) (lv' := [(2, .int (iI (l2 + 1))), (0, .ref q0), (1, .ref q9)]) hx hb dX6_collect_108 hl rfl (by decide) rfl (fun ls hl => ?_)
                refine lv_goto (tgt := 14) hx hb dX6_collect_111 (by decide) ?_
                exact ih (x_slots + 1) (upA a_starts x_slots x_area_length) (upA a_lengths x_slots vz9) vz12 vz13 (l2 + 1) y0 y1 y2 y3 y4 hs Hz lz hP hD hSz ls (lv_sub hl [1, 2, 0] rfl) kx
            · refine k_iinc (x := l2) (k := 2) (lv' := [(2, .int (iI (l2 + 1))), (0, .ref q0), (1, .ref q9)]) hx hb dX6_collect_108 hl rfl (by decide) rfl (fun ls hl => ?_)
              refine lv_goto (tgt := 14) hx hb dX6_collect_111 (by decide) ?_
              exact ih x_slots a_starts a_lengths x_area_length a_area_bytes (l2 + 1) y0 y1 y2 y3 y4 hs Hz lz hP hD hSz ls (lv_sub hl [1, 2, 0] rfl) kx
        · refine k_iinc (x := l2) (k := 2) (lv' := [(2, .int (iI (l2 + 1))), (0, .ref q0), (1, .ref q9)]) hx hb dX6_collect_108 hl rfl (by decide) rfl (fun ls hl => ?_)
          refine lv_goto (tgt := 14) hx hb dX6_collect_111 (by decide) ?_
          exact ih x_slots a_starts a_lengths x_area_length a_area_bytes (l2 + 1) y0 y1 y2 y3 y4 hs Hz lz hP hD hSz ls (lv_sub hl [1, 2, 0] rfl) kx
      · cases hs
        exact kx Hz lz hP hD hSz ls (lv_sub hl [] rfl)
  refine (?_ : ∀ (Hz : Heap) (lz : List Loc), va_P D vwCl (wSK cI cZ cJ q0 q1 q2 q3 q4 q5 q6 q7 q8 q9 q10 q11 q12 q13 x_slots x_built b_sw x_folding_on a_starts a_lengths a_overlaps x_area_length a_area_bytes x_spare_length a_spare_bytes x_arg0_given x_arg0_alive a_arg0_bytes a_arg0_lengths a_arg0_weights a_arg0_lives) Hz → va_D Az (wSK cI cZ cJ q0 q1 q2 q3 q4 q5 q6 q7 q8 q9 q10 q11 q12 q13 x_slots x_built b_sw x_folding_on a_starts a_lengths a_overlaps x_area_length a_area_bytes x_spare_length a_spare_bytes x_arg0_given x_arg0_alive a_arg0_bytes a_arg0_lengths a_arg0_weights a_arg0_lives) → va_S Az s.heap Hz lz → W p l e (headSpec wsX6_collect rm_X6_collect).room s m args below meth c Hz lz 0 0 (MQ below (QW D vwCl none wz Az) args s 0 0 Az) (F0 m 0 ls [])) s.heap [] hP hD hSz
  intro Hz lz hP hD hSz
  refine lv_aload_n hx hb dX6_collect_0 rfl (lv_at hl 0 rfl) ?_
  cases b_sw with
  | false =>
    refine va_get (ci := 6) (v := .ref q5) (C := RX6) (T := TX6) (N := 8) hx hb hts hiX6 hown hK hP 0 rfl rfl 4 (by decide) hf30 (fun _ h9 => h9) rfl dX6_collect_1 ?_
    obtain ⟨vz1, hcz, hs⟩ := bd1_some hs
    refine k_wV (As := []) (rest := []) (st1 := []) (wc := [(q5, .inr (1, [.ref q6, .int (iI x_area_length)])), (q6, .inl (cI, 640, .inl (mI a_area_bytes)))]) (w1 := [(q5, .inr (1, [.ref q6, .int (iI vz1)])), (q6, .inl (cI, 640, .inl (mI a_area_bytes)))]) ⟨hx, hb, hml, hown, hts⟩ hK hP hD hSz hA [5, 6] rfl (by decide) (c_X1_clear l D cI cZ cJ (Nat.le_of_ble_eq_true rfl) hcz) (cwV 0 hts gX6_collect_X1_clear rfl rfl rfl (by decide +kernel) ⟨Nat.le_of_ble_eq_true rfl, Nat.le_of_ble_eq_true rfl⟩) 5 rfl rfl rfl rfl rfl hl.1 rfl (lv_room (Nat.le_of_ble_eq_true rfl)) dX6_collect_4 ⟨Nat.zero_le _, Nat.zero_le _⟩ rfl (fun Hz lz hP hD hSz => ?_)
    have hP : va_P D vwCl (wSK cI cZ cJ q0 q1 q2 q3 q4 q5 q6 q7 q8 q9 q10 q11 q12 q13 x_slots x_built false x_folding_on a_starts a_lengths a_overlaps vz1 a_area_bytes x_spare_length a_spare_bytes x_arg0_given x_arg0_alive a_arg0_bytes a_arg0_lengths a_arg0_weights a_arg0_lives) Hz := hP
    have hD : va_D Az (wSK cI cZ cJ q0 q1 q2 q3 q4 q5 q6 q7 q8 q9 q10 q11 q12 q13 x_slots x_built false x_folding_on a_starts a_lengths a_overlaps vz1 a_area_bytes x_spare_length a_spare_bytes x_arg0_given x_arg0_alive a_arg0_bytes a_arg0_lengths a_arg0_weights a_arg0_lives) := hD
    refine lv_aload_n hx hb dX6_collect_7 rfl (lv_at hl 0 rfl) ?_
    refine k_iconst (n := 0) hx hb dX6_collect_8 ?_
    refine va_put (ci := 6) (v := .int (iI 0)) (ty := .int) (C := RX6) (T := TX6) (N := 8) hx hb hts hiX6 tyX6 tyX6_ok nmX6 hown hK hP hD hSz 0 rfl rfl 6 (by decide) hf37 (fun _ h9 => h9) rfl (by decide +kernel) rfl rfl (Nat.le_of_ble_eq_true rfl) dX6_collect_9 (fun Hz lz hP hD hSz => ?_)
    have hP : va_P D vwCl (wSK cI cZ cJ q0 q1 q2 q3 q4 q5 q6 q7 q8 q9 q10 q11 q12 q13 0 x_built false x_folding_on a_starts a_lengths a_overlaps vz1 a_area_bytes x_spare_length a_spare_bytes x_arg0_given x_arg0_alive a_arg0_bytes a_arg0_lengths a_arg0_weights a_arg0_lives) Hz := hP
    have hD : va_D Az (wSK cI cZ cJ q0 q1 q2 q3 q4 q5 q6 q7 q8 q9 q10 q11 q12 q13 0 x_built false x_folding_on a_starts a_lengths a_overlaps vz1 a_area_bytes x_spare_length a_spare_bytes x_arg0_given x_arg0_alive a_arg0_bytes a_arg0_lengths a_arg0_weights a_arg0_lives) := hD
    refine k_iconst (n := 0) hx hb dX6_collect_12 ?_
    refine lv_istore_n (lv' := [(2, .int (iI 0)), (0, .ref q0), (1, .ref q9)]) hx hb dX6_collect_13 rfl hl (by decide) rfl (fun ls hl => ?_)
    obtain ⟨ez14, ez15, ez16, ez17, ez18, hq, hs⟩ := bd5_some hs
    refine Lz14 FU 0 a_starts a_lengths vz1 a_area_bytes 0 ez14 ez15 ez16 ez17 ez18 hq Hz lz hP hD hSz ls (lv_sub hl [1, 2, 0] rfl) ?_
    intro Hz lz hP hD hSz ls hl
    cases hs
    exact k_vret_w hx hb hr hlk (by rw [hw1]; exact hP) hSz dX6_collect_114 rfl
  | true =>
    refine va_get (ci := 6) (v := .ref q7) (C := RX6) (T := TX6) (N := 8) hx hb hts hiX6 hown hK hP 0 rfl rfl 4 (by decide) hf30 (fun _ h9 => h9) rfl dX6_collect_1 ?_
    obtain ⟨vz19, hcz, hs⟩ := bd1_some hs
    refine k_wV (As := []) (rest := []) (st1 := []) (wc := [(q7, .inr (1, [.ref q8, .int (iI x_area_length)])), (q8, .inl (cI, 640, .inl (mI a_area_bytes)))]) (w1 := [(q7, .inr (1, [.ref q8, .int (iI vz19)])), (q8, .inl (cI, 640, .inl (mI a_area_bytes)))]) ⟨hx, hb, hml, hown, hts⟩ hK hP hD hSz hA [7, 8] rfl (by decide) (c_X1_clear l D cI cZ cJ (Nat.le_of_ble_eq_true rfl) hcz) (cwV 0 hts gX6_collect_X1_clear rfl rfl rfl (by decide +kernel) ⟨Nat.le_of_ble_eq_true rfl, Nat.le_of_ble_eq_true rfl⟩) 7 rfl rfl rfl rfl rfl hl.1 rfl (lv_room (Nat.le_of_ble_eq_true rfl)) dX6_collect_4 ⟨Nat.zero_le _, Nat.zero_le _⟩ rfl (fun Hz lz hP hD hSz => ?_)
    have hP : va_P D vwCl (wSK cI cZ cJ q0 q1 q2 q3 q4 q5 q6 q7 q8 q9 q10 q11 q12 q13 x_slots x_built true x_folding_on a_starts a_lengths a_overlaps vz19 a_area_bytes x_spare_length a_spare_bytes x_arg0_given x_arg0_alive a_arg0_bytes a_arg0_lengths a_arg0_weights a_arg0_lives) Hz := hP
    have hD : va_D Az (wSK cI cZ cJ q0 q1 q2 q3 q4 q5 q6 q7 q8 q9 q10 q11 q12 q13 x_slots x_built true x_folding_on a_starts a_lengths a_overlaps vz19 a_area_bytes x_spare_length a_spare_bytes x_arg0_given x_arg0_alive a_arg0_bytes a_arg0_lengths a_arg0_weights a_arg0_lives) := hD
    refine lv_aload_n hx hb dX6_collect_7 rfl (lv_at hl 0 rfl) ?_
    refine k_iconst (n := 0) hx hb dX6_collect_8 ?_
    refine va_put (ci := 6) (v := .int (iI 0)) (ty := .int) (C := RX6) (T := TX6) (N := 8) hx hb hts hiX6 tyX6 tyX6_ok nmX6 hown hK hP hD hSz 0 rfl rfl 6 (by decide) hf37 (fun _ h9 => h9) rfl (by decide +kernel) rfl rfl (Nat.le_of_ble_eq_true rfl) dX6_collect_9 (fun Hz lz hP hD hSz => ?_)
    have hP : va_P D vwCl (wSK cI cZ cJ q0 q1 q2 q3 q4 q5 q6 q7 q8 q9 q10 q11 q12 q13 0 x_built true x_folding_on a_starts a_lengths a_overlaps vz19 a_area_bytes x_spare_length a_spare_bytes x_arg0_given x_arg0_alive a_arg0_bytes a_arg0_lengths a_arg0_weights a_arg0_lives) Hz := hP
    have hD : va_D Az (wSK cI cZ cJ q0 q1 q2 q3 q4 q5 q6 q7 q8 q9 q10 q11 q12 q13 0 x_built true x_folding_on a_starts a_lengths a_overlaps vz19 a_area_bytes x_spare_length a_spare_bytes x_arg0_given x_arg0_alive a_arg0_bytes a_arg0_lengths a_arg0_weights a_arg0_lives) := hD
    refine k_iconst (n := 0) hx hb dX6_collect_12 ?_
    refine lv_istore_n (lv' := [(2, .int (iI 0)), (0, .ref q0), (1, .ref q9)]) hx hb dX6_collect_13 rfl hl (by decide) rfl (fun ls hl => ?_)
    obtain ⟨ez20, ez21, ez22, ez23, ez24, hq, hs⟩ := bd5_some hs
    refine Lz14 FU 0 a_starts a_lengths vz19 a_area_bytes 0 ez20 ez21 ez22 ez23 ez24 hq Hz lz hP hD hSz ls (lv_sub hl [1, 2, 0] rfl) ?_
    intro Hz lz hP hD hSz ls hl
    cases hs
    exact k_vret_w hx hb hr hlk (by rw [hw1]; exact hP) hSz dX6_collect_114 rfl
/-! X6_overlapOf -/
set_option maxHeartbeats 4000000 in
set_option maxRecDepth 100000 in
theorem c_X6_overlapOf (l : Launch) (D : va_G) (cI cZ cJ : ClassId) {q0 q1 q2 q3 q4 q5 q6 q7 q8 : Nat} {x_slots : Int} {x_built : Int} {b_sw : Bool} {x_folding_on : Int} {a_starts : (Int → Int)} {a_lengths : (Int → Int)} {a_overlaps : (Int → Int)} {x_area_length : Int} {a_area_bytes : (Int → Int)} {x_spare_length : Int} {a_spare_bytes : (Int → Int)} {pz1 : Int} {pz2 : Int} {r : Int} (hs : s_X6_overlapOf x_folding_on a_starts a_lengths a_area_bytes pz1 pz2 = some r) : Met l yX6_overlapOf wsX6_overlapOf rm_X6_overlapOf (PR D vwCl [(cI, .int), (cZ, .boolean), (cJ, .long)] [.ref q0, .int (iI pz1), .int (iI pz2)] (wS cI cZ cJ q0 q1 q2 q3 q4 q5 q6 q7 q8 x_slots x_built b_sw x_folding_on a_starts a_lengths a_overlaps x_area_length a_area_bytes x_spare_length a_spare_bytes)) (QR (some (.int (iI r)))) 0 0 (fun _ => False) := by
  refine Met.ofW (cc := cX6_overlapOf) (maxL := 4) (ret := (some .int)) (by decide) rfl ?_
  intro p e s m args below meth c s₁ B hml hv
  obtain ⟨hav, hP, hK⟩ := hv
  have hx := B.exec
  have hb := B.bytes
  have hr := B.returns
  have hts := atoms_spec (ws := wsX6_overlapOf) B.pre
  have hown : s.vm.findClass RX6 = some m.cls := findClass_of_methodNamed B.named
  have hlk := B.notSynchronized
  have hf19 : (Cond.fieldLink RX6 19 "KeywordMatcher$Superstring" "lengths" "[I").before args s = true := hts _ (List.mem_of_getElem? (i := 1) rfl)
  have hiX6 : ∀ w ∈ wsX60, w ∈ wsX6_overlapOf := fun w h => List.mem_cons_of_mem _ (List.mem_append_left _ (List.mem_append_left _ (List.mem_append_right _ h)))
  have hm96 : (Cond.methodLink RX6 96 Lib.Math.min.name).before args s = true := hts _ (List.mem_of_getElem? (i := 2) rfl)
  have hst_min : (Cond.static Lib.Math.min.name).before args s = true := hts _ (List.mem_of_getElem? (i := 3) rfl)
  have hin_Math : (Cond.initialized "java/lang/Math").before args s = true := hts _ (List.mem_of_getElem? (i := 4) rfl)
  have hcd_min : (Cond.code Lib.Math.min.name Lib.Math.min.code 2 (some .int)).before args s = true := hts _ (List.mem_of_getElem? (i := 5) rfl)
  have hf9 : (Cond.fieldLink RX6 9 "KeywordMatcher$Superstring" "folding" "LKeywordMatcher$Folding;").before args s = true := hts _ (List.mem_of_getElem? (i := 6) rfl)
  have hf30 : (Cond.fieldLink RX6 30 "KeywordMatcher$Superstring" "area" "LKeywordMatcher$ByteRow;").before args s = true := hts _ (List.mem_of_getElem? (i := 7) rfl)
  have hf101 : (Cond.fieldLink RX6 101 "KeywordMatcher$ByteRow" "bytes" "[I").before args s = true := hts _ (List.mem_of_getElem? (i := 8) rfl)
  have hiX1 : ∀ w ∈ wsX10, w ∈ wsX6_overlapOf := fun w h => List.mem_cons_of_mem _ (List.mem_append_left _ (List.mem_append_right _ h))
  have hf15 : (Cond.fieldLink RX6 15 "KeywordMatcher$Superstring" "starts" "[I").before args s = true := hts _ (List.mem_of_getElem? (i := 9) rfl)
  have hl := lv_entry ([.ref q0, .int (iI pz1), .int (iI pz2)]) (n := 4) (Nat.le_of_ble_eq_true rfl)
  rw [show entryFrame m args 4 = entryFrame m ([.ref q0, .int (iI pz1), .int (iI pz2)] : List Value).toArray 4 from by rw [hav], lg_entry_eq]
  generalize (lg_sl ([.ref q0, .int (iI pz1), .int (iI pz2)]) ++ List.replicate (4 - (lg_sl ([.ref q0, .int (iI pz1), .int (iI pz2)])).length) Slot.unset).toArray = ls at hl ⊢
  have hl : lv_has ls 4 [(0, .ref q0), (1, .int (iI pz1)), (2, .int (iI pz2))] := hl
  unfold s_X6_overlapOf at hs
  refine k_bipush (n := 16) hx hb (by decide) dX6_overlapOf_0 ?_
  refine lv_aload_n hx hb dX6_overlapOf_2 rfl (lv_at hl 0 rfl) ?_
  refine va_get (ci := 6) (v := .ref q3) (C := RX6) (T := TX6) (N := 8) hx hb hts hiX6 hown hK hP 0 rfl rfl 2 (by decide) hf19 (fun _ h9 => h9) rfl dX6_overlapOf_3 ?_
  refine lv_iload_n hx hb dX6_overlapOf_6 rfl (lv_at hl 1 rfl) ?_
  refine k_iald hx hb hK hP 3 0 rfl rfl (Nat.le_of_ble_eq_true rfl) hs dX6_overlapOf_7 (fun vz1 hs => ?_)
  refine lv_aload_n hx hb dX6_overlapOf_8 rfl (lv_at hl 0 rfl) ?_
  refine va_get (ci := 6) (v := .ref q3) (C := RX6) (T := TX6) (N := 8) hx hb hts hiX6 hown hK hP 0 rfl rfl 2 (by decide) hf19 (fun _ h9 => h9) rfl dX6_overlapOf_9 ?_
  refine lv_iload_n hx hb dX6_overlapOf_12 rfl (lv_at hl 2 rfl) ?_
  refine k_iald hx hb hK hP 3 0 rfl rfl (Nat.le_of_ble_eq_true rfl) hs dX6_overlapOf_13 (fun vz2 hs => ?_)
  refine k_mmin hx hb (hml.trans hl.1.symm) hown hm96 hst_min hin_Math hcd_min (Nat.le_of_ble_eq_true rfl) (Nat.le_of_ble_eq_true rfl) (Nat.zero_le _) (Nat.zero_le _) hs dX6_overlapOf_14 (fun hs => ?_)
  refine k_mmin hx hb (hml.trans hl.1.symm) hown hm96 hst_min hin_Math hcd_min (Nat.le_of_ble_eq_true rfl) (Nat.le_of_ble_eq_true rfl) (Nat.zero_le _) (Nat.zero_le _) hs dX6_overlapOf_17 (fun hs => ?_)
  refine k_iconst (n := 1) hx hb dX6_overlapOf_20 ?_
  refine k_isub hx hb dX6_overlapOf_21 ?_
  refine lv_istore_n (lv' := [(3, .int (iI ((iMin 16 (iMin vz1 vz2)) - 1))), (0, .ref q0), (1, .int (iI pz1)), (2, .int (iI pz2))]) hx hb dX6_overlapOf_22 rfl hl (by decide) rfl (fun ls hl => ?_)
  refine lv_aload_n hx hb dX6_overlapOf_23 rfl (lv_at hl 1 rfl) ?_
  refine va_get (ci := 6) (v := .ref q1) (C := RX6) (T := TX6) (N := 8) hx hb hts hiX6 hown hK hP 0 rfl rfl 0 (by decide) hf9 (fun _ h9 => h9) rfl dX6_overlapOf_24 ?_
  refine lv_aload_n hx hb dX6_overlapOf_27 rfl (lv_at hl 1 rfl) ?_
  cases b_sw with
  | false =>
    refine va_get (ci := 6) (v := .ref q5) (C := RX6) (T := TX6) (N := 8) hx hb hts hiX6 hown hK hP 0 rfl rfl 4 (by decide) hf30 (fun _ h9 => h9) rfl dX6_overlapOf_28 ?_
    refine va_get (ci := 1) (v := .ref q6) (C := RX1) (T := TX1) (N := 2) hx hb hts hiX1 hown hK hP 5 rfl rfl 0 (by decide) hf101 (fun _ h9 => h9) rfl dX6_overlapOf_31 ?_
    refine lv_aload_n hx hb dX6_overlapOf_34 rfl (lv_at hl 1 rfl) ?_
    refine va_get (ci := 6) (v := .ref q2) (C := RX6) (T := TX6) (N := 8) hx hb hts hiX6 hown hK hP 0 rfl rfl 1 (by decide) hf15 (fun _ h9 => h9) rfl dX6_overlapOf_35 ?_
    refine lv_iload_n hx hb dX6_overlapOf_38 rfl (lv_at hl 2 rfl) ?_
    refine k_iald hx hb hK hP 2 0 rfl rfl (Nat.le_of_ble_eq_true rfl) hs dX6_overlapOf_39 (fun vz3 hs => ?_)
    refine lv_aload_n hx hb dX6_overlapOf_40 rfl (lv_at hl 1 rfl) ?_
    refine va_get (ci := 6) (v := .ref q3) (C := RX6) (T := TX6) (N := 8) hx hb hts hiX6 hown hK hP 0 rfl rfl 2 (by decide) hf19 (fun _ h9 => h9) rfl dX6_overlapOf_41 ?_
    refine lv_iload_n hx hb dX6_overlapOf_44 rfl (lv_at hl 2 rfl) ?_
    refine k_iald hx hb hK hP 3 0 rfl rfl (Nat.le_of_ble_eq_true rfl) hs dX6_overlapOf_45 (fun vz4 hs => ?_)
    refine k_iadd hx hb dX6_overlapOf_46 ?_
    refine lv_aload_n hx hb dX6_overlapOf_47 rfl (lv_at hl 1 rfl) ?_
    refine va_get (ci := 6) (v := .ref q5) (C := RX6) (T := TX6) (N := 8) hx hb hts hiX6 hown hK hP 0 rfl rfl 4 (by decide) hf30 (fun _ h9 => h9) rfl dX6_overlapOf_48 ?_
    refine va_get (ci := 1) (v := .ref q6) (C := RX1) (T := TX1) (N := 2) hx hb hts hiX1 hown hK hP 5 rfl rfl 0 (by decide) hf101 (fun _ h9 => h9) rfl dX6_overlapOf_51 ?_
    refine lv_aload_n hx hb dX6_overlapOf_54 rfl (lv_at hl 1 rfl) ?_
    refine va_get (ci := 6) (v := .ref q2) (C := RX6) (T := TX6) (N := 8) hx hb hts hiX6 hown hK hP 0 rfl rfl 1 (by decide) hf15 (fun _ h9 => h9) rfl dX6_overlapOf_55 ?_
    refine lv_iload_n hx hb dX6_overlapOf_58 rfl (lv_at hl 3 rfl) ?_
    refine k_iald hx hb hK hP 2 0 rfl rfl (Nat.le_of_ble_eq_true rfl) hs dX6_overlapOf_59 (fun vz5 hs => ?_)
    refine lv_iload_n hx hb dX6_overlapOf_60 rfl (lv_at hl 0 rfl) ?_
    obtain ⟨vz6, hcz, hs⟩ := bd1_some hs
    have hPc : va_P D vwCl [(q1, .inr (2, [.int (iI x_folding_on)])), (q6, .inl (cI, 640, .inl (mI a_area_bytes))), (q6, .inl (cI, 640, .inl (mI a_area_bytes)))] s.heap := hP.sub [1, 6, 6] rfl
    refine k_rV (As := [.ref q6, .int (iI (vz3 + vz4)), .ref q6, .int (iI vz5), .int (iI ((iMin 16 (iMin vz1 vz2)) - 1))]) (rest := []) (st1 := [.int (iI vz6)]) ⟨hx, hb, hml, hown, hts⟩ hK hPc (c_X2_overlap l D cI cZ cJ (Nat.le_of_ble_eq_true rfl) (Nat.le_of_ble_eq_true rfl) hcz) (cwV 5 hts gX6_overlapOf_X2_overlap rfl rfl rfl (by decide +kernel) ⟨Nat.le_of_ble_eq_true rfl, Nat.le_of_ble_eq_true rfl⟩) 0 rfl rfl rfl rfl hl.1 rfl (lv_room (Nat.le_of_ble_eq_true rfl)) dX6_overlapOf_61 ⟨Nat.zero_le _, Nat.zero_le _⟩ rfl ?_
    cases hs
    exact k_iret_r hx hb hr hlk rfl dX6_overlapOf_64 rfl
  | true =>
    refine va_get (ci := 6) (v := .ref q7) (C := RX6) (T := TX6) (N := 8) hx hb hts hiX6 hown hK hP 0 rfl rfl 4 (by decide) hf30 (fun _ h9 => h9) rfl dX6_overlapOf_28 ?_
    refine va_get (ci := 1) (v := .ref q8) (C := RX1) (T := TX1) (N := 2) hx hb hts hiX1 hown hK hP 7 rfl rfl 0 (by decide) hf101 (fun _ h9 => h9) rfl dX6_overlapOf_31 ?_
    refine lv_aload_n hx hb dX6_overlapOf_34 rfl (lv_at hl 1 rfl) ?_
    refine va_get (ci := 6) (v := .ref q2) (C := RX6) (T := TX6) (N := 8) hx hb hts hiX6 hown hK hP 0 rfl rfl 1 (by decide) hf15 (fun _ h9 => h9) rfl dX6_overlapOf_35 ?_
    refine lv_iload_n hx hb dX6_overlapOf_38 rfl (lv_at hl 2 rfl) ?_
    refine k_iald hx hb hK hP 2 0 rfl rfl (Nat.le_of_ble_eq_true rfl) hs dX6_overlapOf_39 (fun vz7 hs => ?_)
    refine lv_aload_n hx hb dX6_overlapOf_40 rfl (lv_at hl 1 rfl) ?_
    refine va_get (ci := 6) (v := .ref q3) (C := RX6) (T := TX6) (N := 8) hx hb hts hiX6 hown hK hP 0 rfl rfl 2 (by decide) hf19 (fun _ h9 => h9) rfl dX6_overlapOf_41 ?_
    refine lv_iload_n hx hb dX6_overlapOf_44 rfl (lv_at hl 2 rfl) ?_
    refine k_iald hx hb hK hP 3 0 rfl rfl (Nat.le_of_ble_eq_true rfl) hs dX6_overlapOf_45 (fun vz8 hs => ?_)
    refine k_iadd hx hb dX6_overlapOf_46 ?_
    refine lv_aload_n hx hb dX6_overlapOf_47 rfl (lv_at hl 1 rfl) ?_
    refine va_get (ci := 6) (v := .ref q7) (C := RX6) (T := TX6) (N := 8) hx hb hts hiX6 hown hK hP 0 rfl rfl 4 (by decide) hf30 (fun _ h9 => h9) rfl dX6_overlapOf_48 ?_
    refine va_get (ci := 1) (v := .ref q8) (C := RX1) (T := TX1) (N := 2) hx hb hts hiX1 hown hK hP 7 rfl rfl 0 (by decide) hf101 (fun _ h9 => h9) rfl dX6_overlapOf_51 ?_
    refine lv_aload_n hx hb dX6_overlapOf_54 rfl (lv_at hl 1 rfl) ?_
    refine va_get (ci := 6) (v := .ref q2) (C := RX6) (T := TX6) (N := 8) hx hb hts hiX6 hown hK hP 0 rfl rfl 1 (by decide) hf15 (fun _ h9 => h9) rfl dX6_overlapOf_55 ?_
    refine lv_iload_n hx hb dX6_overlapOf_58 rfl (lv_at hl 3 rfl) ?_
    refine k_iald hx hb hK hP 2 0 rfl rfl (Nat.le_of_ble_eq_true rfl) hs dX6_overlapOf_59 (fun vz9 hs => ?_)
    refine lv_iload_n hx hb dX6_overlapOf_60 rfl (lv_at hl 0 rfl) ?_
    obtain ⟨vz10, hcz, hs⟩ := bd1_some hs
    have hPc : va_P D vwCl [(q1, .inr (2, [.int (iI x_folding_on)])), (q8, .inl (cI, 640, .inl (mI a_area_bytes))), (q8, .inl (cI, 640, .inl (mI a_area_bytes)))] s.heap := hP.sub [1, 8, 8] rfl
    refine k_rV (As := [.ref q8, .int (iI (vz7 + vz8)), .ref q8, .int (iI vz9), .int (iI ((iMin 16 (iMin vz1 vz2)) - 1))]) (rest := []) (st1 := [.int (iI vz10)]) ⟨hx, hb, hml, hown, hts⟩ hK hPc (c_X2_overlap l D cI cZ cJ (Nat.le_of_ble_eq_true rfl) (Nat.le_of_ble_eq_true rfl) hcz) (cwV 5 hts gX6_overlapOf_X2_overlap rfl rfl rfl (by decide +kernel) ⟨Nat.le_of_ble_eq_true rfl, Nat.le_of_ble_eq_true rfl⟩) 0 rfl rfl rfl rfl hl.1 rfl (lv_room (Nat.le_of_ble_eq_true rfl)) dX6_overlapOf_61 ⟨Nat.zero_le _, Nat.zero_le _⟩ rfl ?_
    cases hs
    exact k_iret_r hx hb hr hlk rfl dX6_overlapOf_64 rfl
/-! X6_measureOverlaps -/
set_option maxHeartbeats 4000000 in
set_option maxRecDepth 100000 in
theorem c_X6_measureOverlaps (l : Launch) (D : va_G) (cI cZ cJ : ClassId) {q0 q1 q2 q3 q4 q5 q6 q7 q8 : Nat} {x_slots : Int} {x_built : Int} {b_sw : Bool} {x_folding_on : Int} {a_starts : (Int → Int)} {a_lengths : (Int → Int)} {a_overlaps : (Int → Int)} {x_area_length : Int} {a_area_bytes : (Int → Int)} {x_spare_length : Int} {a_spare_bytes : (Int → Int)} {pz1 : Int} {pz2 : Int} {y_a_overlaps : (Int → Int)} {sz : Nat} (hs : s_X6_measureOverlaps x_folding_on a_starts a_lengths a_overlaps a_area_bytes pz1 pz2 = some y_a_overlaps) : Met l yX6_measureOverlaps wsX6_measureOverlaps rm_X6_measureOverlaps (PW D vwCl [(cI, .int), (cZ, .boolean), (cJ, .long)] [.ref q0, .int (iI pz1), .int (iI pz2)] (wS cI cZ cJ q0 q1 q2 q3 q4 q5 q6 q7 q8 x_slots x_built b_sw x_folding_on a_starts a_lengths a_overlaps x_area_length a_area_bytes x_spare_length a_spare_bytes) sz) (QW D vwCl none (wS cI cZ cJ q0 q1 q2 q3 q4 q5 q6 q7 q8 x_slots x_built b_sw x_folding_on a_starts a_lengths y_a_overlaps x_area_length a_area_bytes x_spare_length a_spare_bytes) (va_A (wS cI cZ cJ q0 q1 q2 q3 q4 q5 q6 q7 q8 x_slots x_built b_sw x_folding_on a_starts a_lengths a_overlaps x_area_length a_area_bytes x_spare_length a_spare_bytes) sz)) 0 0 (va_A (wS cI cZ cJ q0 q1 q2 q3 q4 q5 q6 q7 q8 x_slots x_built b_sw x_folding_on a_starts a_lengths a_overlaps x_area_length a_area_bytes x_spare_length a_spare_bytes) sz) := by
  refine Met.ofW (cc := cX6_measureOverlaps) (maxL := 4) (ret := none) (by decide) rfl ?_
  intro p e s m args below meth c s₁ B hml hv
  obtain ⟨hav, hsz, hP, hK, hD0⟩ := hv
  have hx := B.exec
  have hb := B.bytes
  have hr := B.returns
  have hts := atoms_spec (ws := wsX6_measureOverlaps) B.pre
  have hown : s.vm.findClass RX6 = some m.cls := findClass_of_methodNamed B.named
  have hlk := B.notSynchronized
  have hf22 : (Cond.fieldLink RX6 22 "KeywordMatcher$Superstring" "overlaps" "[I").before args s = true := hts _ (List.mem_of_getElem? (i := 1) rfl)
  have hiX6 : ∀ w ∈ wsX60, w ∈ wsX6_measureOverlaps := fun w h => List.mem_cons_of_mem _ (List.mem_append_left _ (List.mem_append_left _ (List.mem_append_right _ h)))
  subst hsz
  have hD := hD0.self (sz := s.heap.size)
  generalize hAe : va_A (wS cI cZ cJ q0 q1 q2 q3 q4 q5 q6 q7 q8 x_slots x_built b_sw x_folding_on a_starts a_lengths a_overlaps x_area_length a_area_bytes x_spare_length a_spare_bytes) s.heap.size = Az at hD ⊢
  have hA : ∀ q : Nat, s.heap.size ≤ q → Az q := fun q h => by rw [← hAe]; exact Or.inr h
  clear hAe
  have hSz : va_S Az s.heap s.heap [] := va_S.rf
  obtain ⟨wz, hw1⟩ : ∃ z : va_W, z = (wS cI cZ cJ q0 q1 q2 q3 q4 q5 q6 q7 q8 x_slots x_built b_sw x_folding_on a_starts a_lengths y_a_overlaps x_area_length a_area_bytes x_spare_length a_spare_bytes) := ⟨_, rfl⟩
  rw [← hw1]
  have hl := lv_entry ([.ref q0, .int (iI pz1), .int (iI pz2)]) (n := 4) (Nat.le_of_ble_eq_true rfl)
  rw [show entryFrame m args 4 = entryFrame m ([.ref q0, .int (iI pz1), .int (iI pz2)] : List Value).toArray 4 from by rw [hav], lg_entry_eq]
  generalize (lg_sl ([.ref q0, .int (iI pz1), .int (iI pz2)]) ++ List.replicate (4 - (lg_sl ([.ref q0, .int (iI pz1), .int (iI pz2)])).length) Slot.unset).toArray = ls at hl ⊢
  have hl : lv_has ls 4 [(0, .ref q0), (1, .int (iI pz1)), (2, .int (iI pz2))] := hl
  unfold s_X6_measureOverlaps at hs
  have Lz2 : ∀ (fu : Nat) (a_overlaps : (Int → Int)) (l1 : Int) (l2 : Int) (l3 : Int) (y0 : (Int → Int)), s_X6_measureOverlaps_2 fu x_folding_on a_starts a_lengths a_overlaps a_area_bytes l1 l2 l3 = some y0 → ∀ (Hz : Heap) (lz : List Loc), va_P D vwCl (wS cI cZ cJ q0 q1 q2 q3 q4 q5 q6 q7 q8 x_slots x_built b_sw x_folding_on a_starts a_lengths a_overlaps x_area_length a_area_bytes x_spare_length a_spare_bytes) Hz → va_D Az (wS cI cZ cJ q0 q1 q2 q3 q4 q5 q6 q7 q8 x_slots x_built b_sw x_folding_on a_starts a_lengths a_overlaps x_area_length a_area_bytes x_spare_length a_spare_bytes) → va_S Az s.heap Hz lz → ∀ ls : Array Slot, lv_has ls 4 [(0, .ref q0), (1, .int (iI l1)), (2, .int (iI l2)), (3, .int (iI l3))] → (∀ (Hz : Heap) (lz : List Loc), va_P D vwCl (wS cI cZ cJ q0 q1 q2 q3 q4 q5 q6 q7 q8 x_slots x_built b_sw x_folding_on a_starts a_lengths y0 x_area_length a_area_bytes x_spare_length a_spare_bytes) Hz → va_D Az (wS cI cZ cJ q0 q1 q2 q3 q4 q5 q6 q7 q8 x_slots x_built b_sw x_folding_on a_starts a_lengths y0 x_area_length a_area_bytes x_spare_length a_spare_bytes) → va_S Az s.heap Hz lz → ∀ ls : Array Slot, lv_has ls 4 [] → W p l e (headSpec wsX6_measureOverlaps rm_X6_measureOverlaps).room s m args below meth c Hz lz 0 0 (MQ below (QW D vwCl none wz Az) args s 0 0 Az) (F0 m 47 ls [])) → W p l e (headSpec wsX6_measureOverlaps rm_X6_measureOverlaps).room s m args below meth c Hz lz 0 0 (MQ below (QW D vwCl none wz Az) args s 0 0 Az) (F0 m 2 ls []) := by
    intro fu
    induction fu with
    | zero => intro a_overlaps l1 l2 l3 y0 hs; cases hs
    | succ fu ih =>
      intro a_overlaps l1 l2 l3 y0 hs Hz lz hP hD hSz ls hl kx
      rw [s_X6_measureOverlaps_2_s] at hs
      refine lv_iload_n hx hb dX6_measureOverlaps_2 rfl (lv_at hl 3 rfl) ?_
      refine lv_iload_n hx hb dX6_measureOverlaps_3 rfl (lv_at hl 2 rfl) ?_
      refine k_icmp_ge (tgt := 47) hx hb hs dX6_measureOverlaps_4 (by decide) (fun hs => ?_) (fun hs => ?_)
      · refine lv_aload_n hx hb dX6_measureOverlaps_7 rfl (lv_at hl 0 rfl) ?_
        refine va_get (ci := 6) (v := .ref q4) (C := RX6) (T := TX6) (N := 8) hx hb hts hiX6 hown hK hP 0 rfl rfl 3 (by decide) hf22 (fun _ h9 => h9) rfl dX6_measureOverlaps_8 ?_
        refine lv_iload_n hx hb dX6_measureOverlaps_11 rfl (lv_at hl 1 rfl) ?_
        refine k_bipush (n := 40) hx hb (by decide) dX6_measureOverlaps_12 ?_
        refine k_imul hx hb dX6_measureOverlaps_14 ?_
        refine lv_iload_n hx hb dX6_measureOverlaps_15 rfl (lv_at hl 3 rfl) ?_
        refine k_iadd hx hb dX6_measureOverlaps_16 ?_
        refine lv_aload_n hx hb dX6_measureOverlaps_17 rfl (lv_at hl 0 rfl) ?_
        refine lv_iload_n hx hb dX6_measureOverlaps_18 rfl (lv_at hl 1 rfl) ?_
        refine lv_iload_n hx hb dX6_measureOverlaps_19 rfl (lv_at hl 3 rfl) ?_
        obtain ⟨vz1, hcz, hs⟩ := bd1_some hs
        have hPc : va_P D vwCl (wS cI cZ cJ q0 q1 q2 q3 q4 q5 q6 q7 q8 x_slots x_built b_sw x_folding_on a_starts a_lengths a_overlaps x_area_length a_area_bytes x_spare_length a_spare_bytes) Hz := hP.sub [0, 1, 2, 3, 4, 5, 6, 7, 8] rfl
        refine k_rV (As := [.int (iI l1), .int (iI l3)]) (rest := [.int (iI ((l1 * 40) + l3)), .ref q4]) (st1 := [.int (iI vz1), .int (iI ((l1 * 40) + l3)), .ref q4]) ⟨hx, hb, hml, hown, hts⟩ hK hPc (c_X6_overlapOf l D cI cZ cJ hcz) (cwV 2 hts gX6_measureOverlaps_X6_overlapOf rfl rfl rfl (by decide +kernel) ⟨Nat.le_of_ble_eq_true rfl, Nat.le_of_ble_eq_true rfl⟩) 0 rfl rfl rfl rfl hl.1 rfl (lv_room (Nat.le_of_ble_eq_true rfl)) dX6_measureOverlaps_20 ⟨Nat.zero_le _, Nat.zero_le _⟩ rfl ?_
        refine k_iast hx hb hK hP hD hSz 4 0 rfl rfl (Nat.le_of_ble_eq_true rfl) hs dX6_measureOverlaps_23 (fun Hz lz hP hD hSz hs => ?_)
        have hP : va_P D vwCl (wS cI cZ cJ q0 q1 q2 q3 q4 q5 q6 q7 q8 x_slots x_built b_sw x_folding_on a_starts a_lengths (upA a_overlaps ((l1 * 40) + l3) vz1) x_area_length a_area_bytes x_spare_length a_spare_bytes) Hz := hP
        have hD : va_D Az (wS cI cZ cJ q0 q1 q2 q3 q4 q5 q6 q7 q8 x_slots x_built b_sw x_folding_on a_starts a_lengths (upA a_overlaps ((l1 * 40) + l3) vz1) x_area_length a_area_bytes x_spare_length a_spare_bytes) := hD
        refine lv_aload_n hx hb dX6_measureOverlaps_24 rfl (lv_at hl 0 rfl) ?_
        refine va_get (ci := 6) (v := .ref q4) (C := RX6) (T := TX6) (N := 8) hx hb hts hiX6 hown hK hP 0 rfl rfl 3 (by decide) hf22 (fun _ h9 => h9) rfl dX6_measureOverlaps_25 ?_
        refine lv_iload_n hx hb dX6_measureOverlaps_28 rfl (lv_at hl 3 rfl) ?_
        refine k_bipush (n := 40) hx hb (by decide) dX6_measureOverlaps_29 ?_
        refine k_imul hx hb dX6_measureOverlaps_31 ?_
        refine lv_iload_n hx hb dX6_measureOverlaps_32 rfl (lv_at hl 1 rfl) ?_
        refine k_iadd hx hb dX6_measureOverlaps_33 ?_
        refine lv_aload_n hx hb dX6_measureOverlaps_34 rfl (lv_at hl 0 rfl) ?_
        refine lv_iload_n hx hb dX6_measureOverlaps_35 rfl (lv_at hl 3 rfl) ?_
        refine lv_iload_n hx hb dX6_measureOverlaps_36 rfl (lv_at hl 1 rfl) ?_
        obtain ⟨vz2, hcz, hs⟩ := bd1_some hs
        have hPc : va_P D vwCl (wS cI cZ cJ q0 q1 q2 q3 q4 q5 q6 q7 q8 x_slots x_built b_sw x_folding_on a_starts a_lengths (upA a_overlaps ((l1 * 40) + l3) vz1) x_area_length a_area_bytes x_spare_length a_spare_bytes) Hz := hP.sub [0, 1, 2, 3, 4, 5, 6, 7, 8] rfl
        refine k_rV (As := [.int (iI l3), .int (iI l1)]) (rest := [.int (iI ((l3 * 40) + l1)), .ref q4]) (st1 := [.int (iI vz2), .int (iI ((l3 * 40) + l1)), .ref q4]) ⟨hx, hb, hml, hown, hts⟩ hK hPc (c_X6_overlapOf l D cI cZ cJ hcz) (cwV 2 hts gX6_measureOverlaps_X6_overlapOf rfl rfl rfl (by decide +kernel) ⟨Nat.le_of_ble_eq_true rfl, Nat.le_of_ble_eq_true rfl⟩) 0 rfl rfl rfl rfl hl.1 rfl (lv_room (Nat.le_of_ble_eq_true rfl)) dX6_measureOverlaps_37 ⟨Nat.zero_le _, Nat.zero_le _⟩ rfl ?_
        refine k_iast hx hb hK hP hD hSz 4 0 rfl rfl (Nat.le_of_ble_eq_true rfl) hs dX6_measureOverlaps_40 (fun Hz lz hP hD hSz hs => ?_)
        have hP : va_P D vwCl (wS cI cZ cJ q0 q1 q2 q3 q4 q5 q6 q7 q8 x_slots x_built b_sw x_folding_on a_starts a_lengths (upA (upA a_overlaps ((l1 * 40) + l3) vz1) ((l3 * 40) + l1) vz2) x_area_length a_area_bytes x_spare_length a_spare_bytes) Hz := hP
        have hD : va_D Az (wS cI cZ cJ q0 q1 q2 q3 q4 q5 q6 q7 q8 x_slots x_built b_sw x_folding_on a_starts a_lengths (upA (upA a_overlaps ((l1 * 40) + l3) vz1) ((l3 * 40) + l1) vz2) x_area_length a_area_bytes x_spare_length a_spare_bytes) := hD
        refine k_iinc (x := l3) (k := 3) (lv' := [(3, .int (iI (l3 + 1))), (0, .ref q0), (1, .int (iI l1)), (2, .int (iI l2))]) hx hb dX6_measureOverlaps_41 hl rfl (by decide) rfl (fun ls hl => ?_)
        refine lv_goto (tgt := 2) hx hb dX6_measureOverlaps_44 (by decide) ?_
        exact ih (upA (upA a_overlaps ((l1 * 40) + l3) vz1) ((l3 * 40) + l1) vz2) l1 l2 (l3 + 1) y0 hs Hz lz hP hD hSz ls (lv_sub hl [1, 2, 3, 0] rfl) kx
      · cases hs
        exact kx Hz lz hP hD hSz ls (lv_sub hl [] rfl)
  refine (?_ : ∀ (Hz : Heap) (lz : List Loc), va_P D vwCl (wS cI cZ cJ q0 q1 q2 q3 q4 q5 q6 q7 q8 x_slots x_built b_sw x_folding_on a_starts a_lengths a_overlaps x_area_length a_area_bytes x_spare_length a_spare_bytes) Hz → va_D Az (wS cI cZ cJ q0 q1 q2 q3 q4 q5 q6 q7 q8 x_slots x_built b_sw x_folding_on a_starts a_lengths a_overlaps x_area_length a_area_bytes x_spare_length a_spare_bytes) → va_S Az s.heap Hz lz → W p l e (headSpec wsX6_measureOverlaps rm_X6_measureOverlaps).room s m args below meth c Hz lz 0 0 (MQ below (QW D vwCl none wz Az) args s 0 0 Az) (F0 m 0 ls [])) s.heap [] hP hD hSz
  intro Hz lz hP hD hSz
  refine k_iconst (n := 0) hx hb dX6_measureOverlaps_0 ?_
  refine lv_istore_n (lv' := [(3, .int (iI 0)), (0, .ref q0), (1, .int (iI pz1)), (2, .int (iI pz2))]) hx hb dX6_measureOverlaps_1 rfl hl (by decide) rfl (fun ls hl => ?_)
  obtain ⟨ez3, hq, hs⟩ := bd1_some hs
  refine Lz2 FU a_overlaps pz1 pz2 0 ez3 hq Hz lz hP hD hSz ls (lv_sub hl [1, 2, 3, 0] rfl) ?_
  intro Hz lz hP hD hSz ls hl
  cases hs
  exact k_vret_w hx hb hr hlk (by rw [hw1]; exact hP) hSz dX6_measureOverlaps_47 rfl
/-! X6_widestPair -/
set_option maxHeartbeats 4000000 in
set_option maxRecDepth 100000 in
theorem c_X6_widestPair (l : Launch) (D : va_G) (cI cZ cJ : ClassId) {q0 q1 q2 q3 q4 q5 q6 q7 q8 : Nat} {x_slots : Int} {x_built : Int} {b_sw : Bool} {x_folding_on : Int} {a_starts : (Int → Int)} {a_lengths : (Int → Int)} {a_overlaps : (Int → Int)} {x_area_length : Int} {a_area_bytes : (Int → Int)} {x_spare_length : Int} {a_spare_bytes : (Int → Int)} {r : Int} (hs : s_X6_widestPair x_slots a_lengths a_overlaps = some r) : Met l yX6_widestPair wsX6_widestPair rm_X6_widestPair (PR D vwCl [(cI, .int), (cZ, .boolean), (cJ, .long)] [.ref q0] (wS cI cZ cJ q0 q1 q2 q3 q4 q5 q6 q7 q8 x_slots x_built b_sw x_folding_on a_starts a_lengths a_overlaps x_area_length a_area_bytes x_spare_length a_spare_bytes)) (QR (some (.int (iI r)))) 0 0 (fun _ => False) := by
  refine Met.ofW (cc := cX6_widestPair) (maxL := 6) (ret := (some .int)) (by decide) rfl ?_
  intro p e s m args below meth c s₁ B hml hv
  obtain ⟨hav, hP, hK⟩ := hv
  have hx := B.exec
  have hb := B.bytes
  have hr := B.returns
  have hts := atoms_spec (ws := wsX6_widestPair) B.pre
  have hown : s.vm.findClass RX6 = some m.cls := findClass_of_methodNamed B.named
  have hlk := B.notSynchronized
  have hf37 : (Cond.fieldLink RX6 37 "KeywordMatcher$Superstring" "slots" "I").before args s = true := hts _ (List.mem_of_getElem? (i := 1) rfl)
  have hiX6 : ∀ w ∈ wsX60, w ∈ wsX6_widestPair := fun w h => List.mem_cons_of_mem _ (List.mem_append_right _ h)
  have hf22 : (Cond.fieldLink RX6 22 "KeywordMatcher$Superstring" "overlaps" "[I").before args s = true := hts _ (List.mem_of_getElem? (i := 3) rfl)
  have hf19 : (Cond.fieldLink RX6 19 "KeywordMatcher$Superstring" "lengths" "[I").before args s = true := hts _ (List.mem_of_getElem? (i := 2) rfl)
  have hl := lv_entry ([.ref q0]) (n := 6) (Nat.le_of_ble_eq_true rfl)
  rw [show entryFrame m args 6 = entryFrame m ([.ref q0] : List Value).toArray 6 from by rw [hav], lg_entry_eq]
  generalize (lg_sl ([.ref q0]) ++ List.replicate (6 - (lg_sl ([.ref q0])).length) Slot.unset).toArray = ls at hl ⊢
  have hl : lv_has ls 6 [(0, .ref q0)] := hl
  unfold s_X6_widestPair at hs
  have Lz17 : ∀ (fu : Nat) (l1 : Int) (l2 : Int) (l3 : Int) (l4 : Int) (y0 : Int) (y1 : Int), s_X6_widestPair_17 fu x_slots a_lengths a_overlaps l1 l2 l3 l4 = some (y0, y1) → ∀ ls : Array Slot, lv_has ls 6 [(0, .ref q0), (1, .int (iI l1)), (2, .int (iI l2)), (3, .int (iI l3)), (4, .int (iI l4))] → (∀ ls : Array Slot, lv_has ls 6 [(0, .ref q0), (1, .int (iI y0)), (2, .int (iI y1)), (3, .int (iI l3))] → W p l e (headSpec wsX6_widestPair rm_X6_widestPair).room s m args below meth c s.heap [] 0 0 (MQ below (QR (some (.int (iI r)))) args s 0 0 (fun _ => False)) (F0 m 100 ls [])) → W p l e (headSpec wsX6_widestPair rm_X6_widestPair).room s m args below meth c s.heap [] 0 0 (MQ below (QR (some (.int (iI r)))) args s 0 0 (fun _ => False)) (F0 m 17 ls []) := by
    intro fu
    induction fu with
    | zero => intro l1 l2 l3 l4 y0 y1 hs; cases hs
    | succ fu ih =>
      intro l1 l2 l3 l4 y0 y1 hs ls hl kx
      rw [s_X6_widestPair_17_s] at hs
      refine lv_iload hx hb dX6_widestPair_17 (lv_at hl 4 rfl) ?_
      refine lv_aload_n hx hb dX6_widestPair_19 rfl (lv_at hl 0 rfl) ?_
      refine va_get (ci := 6) (v := .int (iI x_slots)) (C := RX6) (T := TX6) (N := 8) hx hb hts hiX6 hown hK hP 0 rfl rfl 6 (by decide) hf37 (fun _ h9 => h9) rfl dX6_widestPair_20 ?_
      refine k_icmp_ge (tgt := 100) hx hb hs dX6_widestPair_23 (by decide) (fun hs => ?_) (fun hs => ?_)
      · refine lv_iload_n hx hb dX6_widestPair_26 rfl (lv_at hl 3 rfl) ?_
        refine lv_iload hx hb dX6_widestPair_27 (lv_at hl 4 rfl) ?_
        refine k_icmp_eq (tgt := 55) hx hb hs dX6_widestPair_29 (by decide) (fun hs => ?_) (fun hs => ?_)
        · refine k_iconst (n := 0) hx hb dX6_widestPair_55 ?_
          refine lv_istore (lv' := [(5, .int (iI 0)), (0, .ref q0), (1, .int (iI l1)), (2, .int (iI l2)), (3, .int (iI l3)), (4, .int (iI l4))]) hx hb dX6_widestPair_56 hl (by decide) rfl (fun ls hl => ?_)
          refine lv_iload hx hb dX6_widestPair_58 (lv_at hl 0 rfl) ?_
          refine k_if_eq (tgt := 94) hx hb hs dX6_widestPair_60 (by decide) (fun hs => ?_) (fun hs => ?_)
          · refine k_iinc (x := l4) (k := 5) (lv' := [(4, .int (iI (l4 + 1))), (5, .int (iI 0)), (0, .ref q0), (1, .int (iI l1)), (2, .int (iI l2)), (3, .int (iI l3))]) hx hb dX6_widestPair_94 hl rfl (by decide) rfl (fun ls hl => ?_)
            refine lv_goto (tgt := 17) hx hb dX6_widestPair_97 (by decide) ?_
            exact ih l1 l2 l3 (l4 + 1) y0 y1 hs ls (lv_sub hl [2, 3, 4, 5, 0] rfl) kx
          · refine lv_aload_n hx hb dX6_widestPair_63 rfl (lv_at hl 1 rfl) ?_
            refine va_get (ci := 6) (v := .ref q4) (C := RX6) (T := TX6) (N := 8) hx hb hts hiX6 hown hK hP 0 rfl rfl 3 (by decide) hf22 (fun _ h9 => h9) rfl dX6_widestPair_64 ?_
            refine lv_iload_n hx hb dX6_widestPair_67 rfl (lv_at hl 4 rfl) ?_
            refine k_bipush (n := 40) hx hb (by decide) dX6_widestPair_68 ?_
            refine k_imul hx hb dX6_widestPair_70 ?_
            refine lv_iload hx hb dX6_widestPair_71 (lv_at hl 5 rfl) ?_
            refine k_iadd hx hb dX6_widestPair_73 ?_
            refine k_iald hx hb hK hP 4 0 rfl rfl (Nat.le_of_ble_eq_true rfl) hs dX6_widestPair_74 (fun vz1 hs => ?_)
            refine lv_iload_n hx hb dX6_widestPair_75 rfl (lv_at hl 2 rfl) ?_
            refine k_icmp_le (tgt := 94) hx hb hs dX6_widestPair_76 (by decide) (fun hs => ?_) (fun hs => ?_)
            · refine lv_iload_n hx hb dX6_widestPair_79 rfl (lv_at hl 4 rfl) ?_
              refine k_bipush (n := 40) hx hb (by decide) dX6_widestPair_80 ?_
              refine k_imul hx hb dX6_widestPair_82 ?_
              refine lv_iload hx hb dX6_widestPair_83 (lv_at hl 5 rfl) ?_
              refine k_iadd hx hb dX6_widestPair_85 ?_
              refine lv_istore_n (lv' := [(2, .int (iI ((l3 * 40) + l4))), (5, .int (iI 0)), (0, .ref q0), (1, .int (iI l1)), (3, .int (iI l3)), (4, .int (iI l4))]) hx hb dX6_widestPair_86 rfl hl (by decide) rfl (fun ls hl => ?_)
              refine lv_aload_n hx hb dX6_widestPair_87 rfl (lv_at hl 2 rfl) ?_
              refine va_get (ci := 6) (v := .ref q4) (C := RX6) (T := TX6) (N := 8) hx hb hts hiX6 hown hK hP 0 rfl rfl 3 (by decide) hf22 (fun _ h9 => h9) rfl dX6_widestPair_88 ?_
              refine lv_iload_n hx hb dX6_widestPair_91 rfl (lv_at hl 0 rfl) ?_
              refine k_iald hx hb hK hP 4 0 rfl rfl (Nat.le_of_ble_eq_true rfl) hs dX6_widestPair_92 (fun vz2 hs => ?_)
              refine lv_istore_n (lv' := [(1, .int (iI vz2)), (2, .int (iI ((l3 * 40) + l4))), (5, .int (iI 0)), (0, .ref q0), (3, .int (iI l3)), (4, .int (iI l4))]) hx hb dX6_widestPair_93 rfl hl (by decide) rfl (fun ls hl => ?_)
              refine k_iinc (x := l4) (k := 5) (lv' := [(4, .int (iI (l4 + 1))), (1, .int (iI vz2)), (2, .int (iI ((l3 * 40) + l4))), (5, .int (iI 0)), (0, .ref q0), (3, .int (iI l3))]) hx hb dX6_widestPair_94 hl rfl (by decide) rfl (fun ls hl => ?_)
              refine lv_goto (tgt := 17) hx hb dX6_widestPair_97 (by decide) ?_
              exact ih vz2 ((l3 * 40) + l4) l3 (l4 + 1) y0 y1 hs ls (lv_sub hl [4, 1, 2, 5, 0] rfl) kx
            · refine k_iinc (x := l4) (k := 5) (lv' := [(4, .int (iI (l4 + 1))), (5, .int (iI 0)), (0, .ref q0), (1, .int (iI l1)), (2, .int (iI l2)), (3, .int (iI l3))]) hx hb dX6_widestPair_94 hl rfl (by decide) rfl (fun ls hl => ?_)
              refine lv_goto (tgt := 17) hx hb dX6_widestPair_97 (by decide) ?_
              exact ih l1 l2 l3 (l4 + 1) y0 y1 hs ls (lv_sub hl [2, 3, 4, 5, 0] rfl) kx
        · refine lv_aload_n hx hb dX6_widestPair_32 rfl (lv_at hl 0 rfl) ?_
          refine va_get (ci := 6) (v := .ref q3) (C := RX6) (T := TX6) (N := 8) hx hb hts hiX6 hown hK hP 0 rfl rfl 2 (by decide) hf19 (fun _ h9 => h9) rfl dX6_widestPair_33 ?_
          refine lv_iload_n hx hb dX6_widestPair_36 rfl (lv_at hl 3 rfl) ?_
          refine k_iald hx hb hK hP 3 0 rfl rfl (Nat.le_of_ble_eq_true rfl) hs dX6_widestPair_37 (fun vz3 hs => ?_)
          refine k_if_le (tgt := 55) hx hb hs dX6_widestPair_38 (by decide) (fun hs => ?_) (fun hs => ?_)
          · refine lv_aload_n hx hb dX6_widestPair_41 rfl (lv_at hl 0 rfl) ?_
            refine va_get (ci := 6) (v := .ref q3) (C := RX6) (T := TX6) (N := 8) hx hb hts hiX6 hown hK hP 0 rfl rfl 2 (by decide) hf19 (fun _ h9 => h9) rfl dX6_widestPair_42 ?_
            refine lv_iload hx hb dX6_widestPair_45 (lv_at hl 4 rfl) ?_
            refine k_iald hx hb hK hP 3 0 rfl rfl (Nat.le_of_ble_eq_true rfl) hs dX6_widestPair_47 (fun vz4 hs => ?_)
            refine k_if_le (tgt := 55) hx hb hs dX6_widestPair_48 (by decide) (fun hs => ?_) (fun hs => ?_)
            · refine k_iconst (n := 1) hx hb dX6_widestPair_51 ?_
              refine lv_goto (tgt := 56) hx hb dX6_widestPair_52 (by decide) ?_
              refine lv_istore (lv' := [(5, .int (iI 1)), (0, .ref q0), (1, .int (iI l1)), (2, .int (iI l2)), (3, .int (iI l3)), (4, .int (iI l4))]) hx hb dX6_widestPair_56 hl (by decide) rfl (fun ls hl => ?_)
              refine lv_iload hx hb dX6_widestPair_58 (lv_at hl 0 rfl) ?_
              refine k_if_eq (tgt := 94) hx hb hs dX6_widestPair_60 (by decide) (fun hs => ?_) (fun hs => ?_)
              · refine k_iinc (x := l4) (k := 5) (lv' := [(4, .int (iI (l4 + 1))), (5, .int (iI 1)), (0, .ref q0), (1, .int (iI l1)), (2, .int (iI l2)), (3, .int (iI l3))]) hx hb dX6_widestPair_94 hl rfl (by decide) rfl (fun ls hl => ?_)
                refine lv_goto (tgt := 17) hx hb dX6_widestPair_97 (by decide) ?_
                exact ih l1 l2 l3 (l4 + 1) y0 y1 hs ls (lv_sub hl [2, 3, 4, 5, 0] rfl) kx
              · refine lv_aload_n hx hb dX6_widestPair_63 rfl (lv_at hl 1 rfl) ?_
                refine va_get (ci := 6) (v := .ref q4) (C := RX6) (T := TX6) (N := 8) hx hb hts hiX6 hown hK hP 0 rfl rfl 3 (by decide) hf22 (fun _ h9 => h9) rfl dX6_widestPair_64 ?_
                refine lv_iload_n hx hb dX6_widestPair_67 rfl (lv_at hl 4 rfl) ?_
                refine k_bipush (n := 40) hx hb (by decide) dX6_widestPair_68 ?_
                refine k_imul hx hb dX6_widestPair_70 ?_
                refine lv_iload hx hb dX6_widestPair_71 (lv_at hl 5 rfl) ?_
                refine k_iadd hx hb dX6_widestPair_73 ?_
                refine k_iald hx hb hK hP 4 0 rfl rfl (Nat.le_of_ble_eq_true rfl) hs dX6_widestPair_74 (fun vz5 hs => ?_)
                refine lv_iload_n hx hb dX6_widestPair_75 rfl (lv_at hl 2 rfl) ?_
                refine k_icmp_le (tgt := 94) hx hb hs dX6_widestPair_76 (by decide) (fun hs => ?_) (fun hs => ?_)
                · refine lv_iload_n hx hb dX6_widestPair_79 rfl (lv_at hl 4 rfl) ?_
                  refine k_bipush (n := 40) hx hb (by decide) dX6_widestPair_80 ?_
                  refine k_imul hx hb dX6_widestPair_82 ?_
                  refine lv_iload hx hb dX6_widestPair_83 (lv_at hl 5 rfl) ?_
                  refine k_iadd hx hb dX6_widestPair_85 ?_
                  refine lv_istore_n (lv' := [(2, .int (iI ((l3 * 40) + l4))), (5, .int (iI 1)), (0, .ref q0), (1, .int (iI l1)), (3, .int (iI l3)), (4, .int (iI l4))]) hx hb dX6_widestPair_86 rfl hl (by decide) rfl (fun ls hl => ?_)
                  refine lv_aload_n hx hb dX6_widestPair_87 rfl (lv_at hl 2 rfl) ?_
                  refine va_get (ci := 6) (v := .ref q4) (C := RX6) (T := TX6) (N := 8) hx hb hts hiX6 hown hK hP 0 rfl rfl 3 (by decide) hf22 (fun _ h9 => h9) rfl dX6_widestPair_88 ?_
                  refine lv_iload_n hx hb dX6_widestPair_91 rfl (lv_at hl 0 rfl) ?_
                  refine k_iald hx hb hK hP 4 0 rfl rfl (Nat.le_of_ble_eq_true rfl) hs dX6_widestPair_92 (fun vz6 hs => ?_)
                  refine lv_istore_n (lv' := [(1, .int (iI vz6)), (2, .int (iI ((l3 * 40) + l4))), (5, .int (iI 1)), (0, .ref q0), (3, .int (iI l3)), (4, .int (iI l4))]) hx hb dX6_widestPair_93 rfl hl (by decide) rfl (fun ls hl => ?_)
                  refine k_iinc (x := l4) (k := 5) (lv' := [(4, .int (iI (l4 + 1))), (1, .int (iI vz6)), (2, .int (iI ((l3 * 40) + l4))), (5, .int (iI 1)), (0, .ref q0), (3, .int (iI l3))]) hx hb dX6_widestPair_94 hl rfl (by decide) rfl (fun ls hl => ?_)
                  refine lv_goto (tgt := 17) hx hb dX6_widestPair_97 (by decide) ?_
                  exact ih vz6 ((l3 * 40) + l4) l3 (l4 + 1) y0 y1 hs ls (lv_sub hl [4, 1, 2, 5, 0] rfl) kx
                · refine k_iinc (x := l4) (k := 5) (lv' := [(4, .int (iI (l4 + 1))), (5, .int (iI 1)), (0, .ref q0), (1, .int (iI l1)), (2, .int (iI l2)), (3, .int (iI l3))]) hx hb dX6_widestPair_94 hl rfl (by decide) rfl (fun ls hl => ?_)
                  refine lv_goto (tgt := 17) hx hb dX6_widestPair_97 (by decide) ?_
                  exact ih l1 l2 l3 (l4 + 1) y0 y1 hs ls (lv_sub hl [2, 3, 4, 5, 0] rfl) kx
            · refine k_iconst (n := 0) hx hb dX6_widestPair_55 ?_
              refine lv_istore (lv' := [(5, .int (iI 0)), (0, .ref q0), (1, .int (iI l1)), (2, .int (iI l2)), (3, .int (iI l3)), (4, .int (iI l4))]) hx hb dX6_widestPair_56 hl (by decide) rfl (fun ls hl => ?_)
              refine lv_iload hx hb dX6_widestPair_58 (lv_at hl 0 rfl) ?_
              refine k_if_eq (tgt := 94) hx hb hs dX6_widestPair_60 (by decide) (fun hs => ?_) (fun hs => ?_)
              · refine k_iinc (x := l4) (k := 5) (lv' := [(4, .int (iI (l4 + 1))), (5, .int (iI 0)), (0, .ref q0), (1, .int (iI l1)), (2, .int (iI l2)), (3, .int (iI l3))]) hx hb dX6_widestPair_94 hl rfl (by decide) rfl (fun ls hl => ?_)
                refine lv_goto (tgt := 17) hx hb dX6_widestPair_97 (by decide) ?_
                exact ih l1 l2 l3 (l4 + 1) y0 y1 hs ls (lv_sub hl [2, 3, 4, 5, 0] rfl) kx
              · refine lv_aload_n hx hb dX6_widestPair_63 rfl (lv_at hl 1 rfl) ?_
                refine va_get (ci := 6) (v := .ref q4) (C := RX6) (T := TX6) (N := 8) hx hb hts hiX6 hown hK hP 0 rfl rfl 3 (by decide) hf22 (fun _ h9 => h9) rfl dX6_widestPair_64 ?_
                refine lv_iload_n hx hb dX6_widestPair_67 rfl (lv_at hl 4 rfl) ?_
                refine k_bipush (n := 40) hx hb (by decide) dX6_widestPair_68 ?_
                refine k_imul hx hb dX6_widestPair_70 ?_
                refine lv_iload hx hb dX6_widestPair_71 (lv_at hl 5 rfl) ?_
                refine k_iadd hx hb dX6_widestPair_73 ?_
                refine k_iald hx hb hK hP 4 0 rfl rfl (Nat.le_of_ble_eq_true rfl) hs dX6_widestPair_74 (fun vz7 hs => ?_)
                refine lv_iload_n hx hb dX6_widestPair_75 rfl (lv_at hl 2 rfl) ?_
                refine k_icmp_le (tgt := 94) hx hb hs dX6_widestPair_76 (by decide) (fun hs => ?_) (fun hs => ?_)
                · refine lv_iload_n hx hb dX6_widestPair_79 rfl (lv_at hl 4 rfl) ?_
                  refine k_bipush (n := 40) hx hb (by decide) dX6_widestPair_80 ?_
                  refine k_imul hx hb dX6_widestPair_82 ?_
                  refine lv_iload hx hb dX6_widestPair_83 (lv_at hl 5 rfl) ?_
                  refine k_iadd hx hb dX6_widestPair_85 ?_
                  refine lv_istore_n (lv' := [(2, .int (iI ((l3 * 40) + l4))), (5, .int (iI 0)), (0, .ref q0), (1, .int (iI l1)), (3, .int (iI l3)), (4, .int (iI l4))]) hx hb dX6_widestPair_86 rfl hl (by decide) rfl (fun ls hl => ?_)
                  refine lv_aload_n hx hb dX6_widestPair_87 rfl (lv_at hl 2 rfl) ?_
                  refine va_get (ci := 6) (v := .ref q4) (C := RX6) (T := TX6) (N := 8) hx hb hts hiX6 hown hK hP 0 rfl rfl 3 (by decide) hf22 (fun _ h9 => h9) rfl dX6_widestPair_88 ?_
                  refine lv_iload_n hx hb dX6_widestPair_91 rfl (lv_at hl 0 rfl) ?_
                  refine k_iald hx hb hK hP 4 0 rfl rfl (Nat.le_of_ble_eq_true rfl) hs dX6_widestPair_92 (fun vz8 hs => ?_)
                  refine lv_istore_n (lv' := [(1, .int (iI vz8)), (2, .int (iI ((l3 * 40) + l4))), (5, .int (iI 0)), (0, .ref q0), (3, .int (iI l3)), (4, .int (iI l4))]) hx hb dX6_widestPair_93 rfl hl (by decide) rfl (fun ls hl => ?_)
                  refine k_iinc (x := l4) (k := 5) (lv' := [(4, .int (iI (l4 + 1))), (1, .int (iI vz8)), (2, .int (iI ((l3 * 40) + l4))), (5, .int (iI 0)), (0, .ref q0), (3, .int (iI l3))]) hx hb dX6_widestPair_94 hl rfl (by decide) rfl (fun ls hl => ?_)
                  refine lv_goto (tgt := 17) hx hb dX6_widestPair_97 (by decide) ?_
                  exact ih vz8 ((l3 * 40) + l4) l3 (l4 + 1) y0 y1 hs ls (lv_sub hl [4, 1, 2, 5, 0] rfl) kx
                · refine k_iinc (x := l4) (k := 5) (lv' := [(4, .int (iI (l4 + 1))), (5, .int (iI 0)), (0, .ref q0), (1, .int (iI l1)), (2, .int (iI l2)), (3, .int (iI l3))]) hx hb dX6_widestPair_94 hl rfl (by decide) rfl (fun ls hl => ?_)
                  refine lv_goto (tgt := 17) hx hb dX6_widestPair_97 (by decide) ?_
                  exact ih l1 l2 l3 (l4 + 1) y0 y1 hs ls (lv_sub hl [2, 3, 4, 5, 0] rfl) kx
          · refine k_iconst (n := 0) hx hb dX6_widestPair_55 ?_
            refine lv_istore (lv' := [(5, .int (iI 0)), (0, .ref q0), (1, .int (iI l1)), (2, .int (iI l2)), (3, .int (iI l3)), (4, .int (iI l4))]) hx hb dX6_widestPair_56 hl (by decide) rfl (fun ls hl => ?_)
            refine lv_iload hx hb dX6_widestPair_58 (lv_at hl 0 rfl) ?_
            refine k_if_eq (tgt := 94) hx hb hs dX6_widestPair_60 (by decide) (fun hs => ?_) (fun hs => ?_)
            · refine k_iinc (x := l4) (k := 5) (lv' := [(4, .int (iI (l4 + 1))), (5, .int (iI 0)), (0, .ref q0), (1, .int (iI l1)), (2, .int (iI l2)), (3, .int (iI l3))]) hx hb dX6_widestPair_94 hl rfl (by decide) rfl (fun ls hl => ?_)
              refine lv_goto (tgt := 17) hx hb dX6_widestPair_97 (by decide) ?_
              exact ih l1 l2 l3 (l4 + 1) y0 y1 hs ls (lv_sub hl [2, 3, 4, 5, 0] rfl) kx
            · refine lv_aload_n hx hb dX6_widestPair_63 rfl (lv_at hl 1 rfl) ?_
              refine va_get (ci := 6) (v := .ref q4) (C := RX6) (T := TX6) (N := 8) hx hb hts hiX6 hown hK hP 0 rfl rfl 3 (by decide) hf22 (fun _ h9 => h9) rfl dX6_widestPair_64 ?_
              refine lv_iload_n hx hb dX6_widestPair_67 rfl (lv_at hl 4 rfl) ?_
              refine k_bipush (n := 40) hx hb (by decide) dX6_widestPair_68 ?_
              refine k_imul hx hb dX6_widestPair_70 ?_
              refine lv_iload hx hb dX6_widestPair_71 (lv_at hl 5 rfl) ?_
              refine k_iadd hx hb dX6_widestPair_73 ?_
              refine k_iald hx hb hK hP 4 0 rfl rfl (Nat.le_of_ble_eq_true rfl) hs dX6_widestPair_74 (fun vz9 hs => ?_)
              refine lv_iload_n hx hb dX6_widestPair_75 rfl (lv_at hl 2 rfl) ?_
              refine k_icmp_le (tgt := 94) hx hb hs dX6_widestPair_76 (by decide) (fun hs => ?_) (fun hs => ?_)
              · refine lv_iload_n hx hb dX6_widestPair_79 rfl (lv_at hl 4 rfl) ?_
                refine k_bipush (n := 40) hx hb (by decide) dX6_widestPair_80 ?_
                refine k_imul hx hb dX6_widestPair_82 ?_
                refine lv_iload hx hb dX6_widestPair_83 (lv_at hl 5 rfl) ?_
                refine k_iadd hx hb dX6_widestPair_85 ?_
                refine lv_istore_n (lv' := [(2, .int (iI ((l3 * 40) + l4))), (5, .int (iI 0)), (0, .ref q0), (1, .int (iI l1)), (3, .int (iI l3)), (4, .int (iI l4))]) hx hb dX6_widestPair_86 rfl hl (by decide) rfl (fun ls hl => ?_)
                refine lv_aload_n hx hb dX6_widestPair_87 rfl (lv_at hl 2 rfl) ?_
                refine va_get (ci := 6) (v := .ref q4) (C := RX6) (T := TX6) (N := 8) hx hb hts hiX6 hown hK hP 0 rfl rfl 3 (by decide) hf22 (fun _ h9 => h9) rfl dX6_widestPair_88 ?_
                refine lv_iload_n hx hb dX6_widestPair_91 rfl (lv_at hl 0 rfl) ?_
                refine k_iald hx hb hK hP 4 0 rfl rfl (Nat.le_of_ble_eq_true rfl) hs dX6_widestPair_92 (fun vz10 hs => ?_)
                refine lv_istore_n (lv' := [(1, .int (iI vz10)), (2, .int (iI ((l3 * 40) + l4))), (5, .int (iI 0)), (0, .ref q0), (3, .int (iI l3)), (4, .int (iI l4))]) hx hb dX6_widestPair_93 rfl hl (by decide) rfl (fun ls hl => ?_)
                refine k_iinc (x := l4) (k := 5) (lv' := [(4, .int (iI (l4 + 1))), (1, .int (iI vz10)), (2, .int (iI ((l3 * 40) + l4))), (5, .int (iI 0)), (0, .ref q0), (3, .int (iI l3))]) hx hb dX6_widestPair_94 hl rfl (by decide) rfl (fun ls hl => ?_)
                refine lv_goto (tgt := 17) hx hb dX6_widestPair_97 (by decide) ?_
                exact ih vz10 ((l3 * 40) + l4) l3 (l4 + 1) y0 y1 hs ls (lv_sub hl [4, 1, 2, 5, 0] rfl) kx
              · refine k_iinc (x := l4) (k := 5) (lv' := [(4, .int (iI (l4 + 1))), (5, .int (iI 0)), (0, .ref q0), (1, .int (iI l1)), (2, .int (iI l2)), (3, .int (iI l3))]) hx hb dX6_widestPair_94 hl rfl (by decide) rfl (fun ls hl => ?_)
                refine lv_goto (tgt := 17) hx hb dX6_widestPair_97 (by decide) ?_
                exact ih l1 l2 l3 (l4 + 1) y0 y1 hs ls (lv_sub hl [2, 3, 4, 5, 0] rfl) kx
      · cases hs
        exact kx ls (lv_sub hl [0, 1, 2, 3] rfl)
  have Lz6 : ∀ (fu : Nat) (l1 : Int) (l2 : Int) (l3 : Int) (y0 : Int), s_X6_widestPair_6 fu x_slots a_lengths a_overlaps l1 l2 l3 = some y0 → ∀ ls : Array Slot, lv_has ls 6 [(0, .ref q0), (1, .int (iI l1)), (2, .int (iI l2)), (3, .int (iI l3))] → (∀ ls : Array Slot, lv_has ls 6 [(2, .int (iI y0))] → W p l e (headSpec wsX6_widestPair rm_X6_widestPair).room s m args below meth c s.heap [] 0 0 (MQ below (QR (some (.int (iI r)))) args s 0 0 (fun _ => False)) (F0 m 106 ls [])) → W p l e (headSpec wsX6_widestPair rm_X6_widestPair).room s m args below meth c s.heap [] 0 0 (MQ below (QR (some (.int (iI r)))) args s 0 0 (fun _ => False)) (F0 m 6 ls []) := by
    intro fu
    induction fu with
    | zero => intro l1 l2 l3 y0 hs; cases hs
    | succ fu ih =>
      intro l1 l2 l3 y0 hs ls hl kx
      rw [s_X6_widestPair_6_s] at hs
      refine lv_iload_n hx hb dX6_widestPair_6 rfl (lv_at hl 3 rfl) ?_
      refine lv_aload_n hx hb dX6_widestPair_7 rfl (lv_at hl 0 rfl) ?_
      refine va_get (ci := 6) (v := .int (iI x_slots)) (C := RX6) (T := TX6) (N := 8) hx hb hts hiX6 hown hK hP 0 rfl rfl 6 (by decide) hf37 (fun _ h9 => h9) rfl dX6_widestPair_8 ?_
      refine k_icmp_ge (tgt := 106) hx hb hs dX6_widestPair_11 (by decide) (fun hs => ?_) (fun hs => ?_)
      · refine k_iconst (n := 0) hx hb dX6_widestPair_14 ?_
        refine lv_istore (lv' := [(4, .int (iI 0)), (0, .ref q0), (1, .int (iI l1)), (2, .int (iI l2)), (3, .int (iI l3))]) hx hb dX6_widestPair_15 hl (by decide) rfl (fun ls hl => ?_)
        obtain ⟨ez11, ez12, hq, hs⟩ := bd2_some hs
        refine Lz17 FU l1 l2 l3 0 ez11 ez12 hq ls (lv_sub hl [1, 2, 3, 4, 0] rfl) ?_
        intro ls hl
        refine k_iinc (x := l3) (k := 3) (lv' := [(3, .int (iI (l3 + 1))), (0, .ref q0), (1, .int (iI ez11)), (2, .int (iI ez12))]) hx hb dX6_widestPair_100 hl rfl (by decide) rfl (fun ls hl => ?_)
        refine lv_goto (tgt := 6) hx hb dX6_widestPair_103 (by decide) ?_
        exact ih ez11 ez12 (l3 + 1) y0 hs ls (lv_sub hl [1, 2, 3, 0] rfl) kx
      · cases hs
        exact kx ls (lv_sub hl [2] rfl)
  refine k_iconst (n := (-1)) hx hb dX6_widestPair_0 ?_
  refine lv_istore_n (lv' := [(1, .int (iI (-1))), (0, .ref q0)]) hx hb dX6_widestPair_1 rfl hl (by decide) rfl (fun ls hl => ?_)
  refine k_iconst (n := (-1)) hx hb dX6_widestPair_2 ?_
  refine lv_istore_n (lv' := [(2, .int (iI (-1))), (1, .int (iI (-1))), (0, .ref q0)]) hx hb dX6_widestPair_3 rfl hl (by decide) rfl (fun ls hl => ?_)
  refine k_iconst (n := 0) hx hb dX6_widestPair_4 ?_
  refine lv_istore_n (lv' := [(3, .int (iI 0)), (2, .int (iI (-1))), (1, .int (iI (-1))), (0, .ref q0)]) hx hb dX6_widestPair_5 rfl hl (by decide) rfl (fun ls hl => ?_)
  obtain ⟨ez13, hq, hs⟩ := bd1_some hs
  refine Lz6 FU (-1) (-1) 0 ez13 hq ls (lv_sub hl [3, 2, 1, 0] rfl) ?_
  intro ls hl
  refine lv_iload_n hx hb dX6_widestPair_106 rfl (lv_at hl 0 rfl) ?_
  cases hs
  exact k_iret_r hx hb hr hlk rfl dX6_widestPair_107 rfl
/-! X6_layOut -/
set_option maxHeartbeats 4000000 in
set_option maxRecDepth 100000 in
theorem c_X6_layOut (l : Launch) (D : va_G) (cI cZ cJ : ClassId) {q0 q1 q2 q3 q4 q5 q6 q7 q8 : Nat} {x_slots : Int} {x_built : Int} {b_sw : Bool} {x_folding_on : Int} {a_starts : (Int → Int)} {a_lengths : (Int → Int)} {a_overlaps : (Int → Int)} {x_area_length : Int} {a_area_bytes : (Int → Int)} {x_spare_length : Int} {a_spare_bytes : (Int → Int)} {pz1 : Int} {pz2 : Int} {pz3 : Int} {y_b_sw : Bool} {y_a_starts : (Int → Int)} {y_a_lengths : (Int → Int)} {y_x_area_length : Int} {y_a_area_bytes : (Int → Int)} {y_x_spare_length : Int} {y_a_spare_bytes : (Int → Int)} {sz : Nat} (hs : s_X6_layOut x_slots b_sw a_starts a_lengths x_area_length a_area_bytes x_spare_length a_spare_bytes pz1 pz2 pz3 = some (y_b_sw, y_a_starts, y_a_lengths, y_x_area_length, y_a_area_bytes, y_x_spare_length, y_a_spare_bytes)) : Met l yX6_layOut wsX6_layOut rm_X6_layOut (PW D vwCl [(cI, .int), (cZ, .boolean), (cJ, .long)] [.ref q0, .int (iI pz1), .int (iI pz2), .int (iI pz3)] (wS cI cZ cJ q0 q1 q2 q3 q4 q5 q6 q7 q8 x_slots x_built b_sw x_folding_on a_starts a_lengths a_overlaps x_area_length a_area_bytes x_spare_length a_spare_bytes) sz) (QW D vwCl none (wS cI cZ cJ q0 q1 q2 q3 q4 q5 q6 q7 q8 x_slots x_built y_b_sw x_folding_on y_a_starts y_a_lengths a_overlaps y_x_area_length y_a_area_bytes y_x_spare_length y_a_spare_bytes) (va_A (wS cI cZ cJ q0 q1 q2 q3 q4 q5 q6 q7 q8 x_slots x_built b_sw x_folding_on a_starts a_lengths a_overlaps x_area_length a_area_bytes x_spare_length a_spare_bytes) sz)) 0 0 (va_A (wS cI cZ cJ q0 q1 q2 q3 q4 q5 q6 q7 q8 x_slots x_built b_sw x_folding_on a_starts a_lengths a_overlaps x_area_length a_area_bytes x_spare_length a_spare_bytes) sz) := by
  refine Met.ofW (cc := cX6_layOut) (maxL := 6) (ret := none) (by decide) rfl ?_
  intro p e s m args below meth c s₁ B hml hv
  obtain ⟨hav, hsz, hP, hK, hD0⟩ := hv
  have hx := B.exec
  have hb := B.bytes
  have hr := B.returns
  have hts := atoms_spec (ws := wsX6_layOut) B.pre
  have hown : s.vm.findClass RX6 = some m.cls := findClass_of_methodNamed B.named
  have hlk := B.notSynchronized
  have hf34 : (Cond.fieldLink RX6 34 "KeywordMatcher$Superstring" "spare" "LKeywordMatcher$ByteRow;").before args s = true := hts _ (List.mem_of_getElem? (i := 1) rfl)
  have hiX6 : ∀ w ∈ wsX60, w ∈ wsX6_layOut := fun w h => List.mem_cons_of_mem _ (List.mem_append_left _ (List.mem_append_right _ h))
  have hf37 : (Cond.fieldLink RX6 37 "KeywordMatcher$Superstring" "slots" "I").before args s = true := hts _ (List.mem_of_getElem? (i := 2) rfl)
  have hf75 : (Cond.fieldLink RX6 75 "KeywordMatcher$ByteRow" "length" "I").before args s = true := hts _ (List.mem_of_getElem? (i := 3) rfl)
  have hiX1 : ∀ w ∈ wsX10, w ∈ wsX6_layOut := fun w h => List.mem_cons_of_mem _ (List.mem_append_right _ h)
  have hf30 : (Cond.fieldLink RX6 30 "KeywordMatcher$Superstring" "area" "LKeywordMatcher$ByteRow;").before args s = true := hts _ (List.mem_of_getElem? (i := 4) rfl)
  have hf101 : (Cond.fieldLink RX6 101 "KeywordMatcher$ByteRow" "bytes" "[I").before args s = true := hts _ (List.mem_of_getElem? (i := 5) rfl)
  have hf15 : (Cond.fieldLink RX6 15 "KeywordMatcher$Superstring" "starts" "[I").before args s = true := hts _ (List.mem_of_getElem? (i := 6) rfl)
  have hf19 : (Cond.fieldLink RX6 19 "KeywordMatcher$Superstring" "lengths" "[I").before args s = true := hts _ (List.mem_of_getElem? (i := 7) rfl)
  subst hsz
  have hD := hD0.self (sz := s.heap.size)
  generalize hAe : va_A (wS cI cZ cJ q0 q1 q2 q3 q4 q5 q6 q7 q8 x_slots x_built b_sw x_folding_on a_starts a_lengths a_overlaps x_area_length a_area_bytes x_spare_length a_spare_bytes) s.heap.size = Az at hD ⊢
  have hA : ∀ q : Nat, s.heap.size ≤ q → Az q := fun q h => by rw [← hAe]; exact Or.inr h
  clear hAe
  have hSz : va_S Az s.heap s.heap [] := va_S.rf
  obtain ⟨wz, hw1⟩ : ∃ z : va_W, z = (wS cI cZ cJ q0 q1 q2 q3 q4 q5 q6 q7 q8 x_slots x_built y_b_sw x_folding_on y_a_starts y_a_lengths a_overlaps y_x_area_length y_a_area_bytes y_x_spare_length y_a_spare_bytes) := ⟨_, rfl⟩
  rw [← hw1]
  have hl := lv_entry ([.ref q0, .int (iI pz1), .int (iI pz2), .int (iI pz3)]) (n := 6) (Nat.le_of_ble_eq_true rfl)
  rw [show entryFrame m args 6 = entryFrame m ([.ref q0, .int (iI pz1), .int (iI pz2), .int (iI pz3)] : List Value).toArray 6 from by rw [hav], lg_entry_eq]
  generalize (lg_sl ([.ref q0, .int (iI pz1), .int (iI pz2), .int (iI pz3)]) ++ List.replicate (6 - (lg_sl ([.ref q0, .int (iI pz1), .int (iI pz2), .int (iI pz3)])).length) Slot.unset).toArray = ls at hl ⊢
  have hl : lv_has ls 6 [(0, .ref q0), (1, .int (iI pz1)), (2, .int (iI pz2)), (3, .int (iI pz3))] := hl
  unfold s_X6_layOut at hs
  have Lz10 : ∀ (fu : Nat) (b_sw : Bool) (a_starts : (Int → Int)) (a_lengths : (Int → Int)) (x_area_length : Int) (a_area_bytes : (Int → Int)) (x_spare_length : Int) (a_spare_bytes : (Int → Int)) (l1 : Int) (l2 : Int) (l3 : Int) (l4 : Int) (y0 : (Int → Int)) (y1 : (Int → Int)) (y2 : Int) (y3 : (Int → Int)), s_X6_layOut_10 fu x_slots a_starts a_lengths a_area_bytes x_spare_length a_spare_bytes l1 l2 l3 l4 = some (y0, y1, y2, y3) → ∀ (Hz : Heap) (lz : List Loc), va_P D vwCl (wS cI cZ cJ q0 q1 q2 q3 q4 q5 q6 q7 q8 x_slots x_built b_sw x_folding_on a_starts a_lengths a_overlaps x_area_length a_area_bytes x_spare_length a_spare_bytes) Hz → va_D Az (wS cI cZ cJ q0 q1 q2 q3 q4 q5 q6 q7 q8 x_slots x_built b_sw x_folding_on a_starts a_lengths a_overlaps x_area_length a_area_bytes x_spare_length a_spare_bytes) → va_S Az s.heap Hz lz → ∀ ls : Array Slot, lv_has ls 6 [(0, .ref q0), (1, .int (iI l1)), (2, .int (iI l2)), (3, .int (iI l3)), (4, .int (iI l4))] → (∀ (Hz : Heap) (lz : List Loc), va_P D vwCl (wS cI cZ cJ q0 q1 q2 q3 q4 q5 q6 q7 q8 x_slots x_built b_sw x_folding_on y0 y1 a_overlaps x_area_length a_area_bytes y2 y3) Hz → va_D Az (wS cI cZ cJ q0 q1 q2 q3 q4 q5 q6 q7 q8 x_slots x_built b_sw x_folding_on y0 y1 a_overlaps x_area_length a_area_bytes y2 y3) → va_S Az s.heap Hz lz → ∀ ls : Array Slot, lv_has ls 6 [(0, .ref q0)] → W p l e (headSpec wsX6_layOut rm_X6_layOut).room s m args below meth c Hz lz 0 0 (MQ below (QW D vwCl none wz Az) args s 0 0 Az) (F0 m 110 ls [])) → W p l e (headSpec wsX6_layOut rm_X6_layOut).room s m args below meth c Hz lz 0 0 (MQ below (QW D vwCl none wz Az) args s 0 0 Az) (F0 m 10 ls []) := by
    intro fu
    induction fu with
    | zero => intro b_sw a_starts a_lengths x_area_length a_area_bytes x_spare_length a_spare_bytes l1 l2 l3 l4 y0 y1 y2 y3 hs; cases hs
    | succ fu ih =>
      intro b_sw a_starts a_lengths x_area_length a_area_bytes x_spare_length a_spare_bytes l1 l2 l3 l4 y0 y1 y2 y3 hs Hz lz hP hD hSz ls hl kx
      rw [s_X6_layOut_10_s] at hs
      refine lv_iload hx hb dX6_layOut_10 (lv_at hl 4 rfl) ?_
      refine lv_aload_n hx hb dX6_layOut_12 rfl (lv_at hl 0 rfl) ?_
      refine va_get (ci := 6) (v := .int (iI x_slots)) (C := RX6) (T := TX6) (N := 8) hx hb hts hiX6 hown hK hP 0 rfl rfl 6 (by decide) hf37 (fun _ h9 => h9) rfl dX6_layOut_13 ?_
      refine k_icmp_ge (tgt := 110) hx hb hs dX6_layOut_16 (by decide) (fun hs => ?_) (fun hs => ?_)
      · refine lv_aload_n hx hb dX6_layOut_19 rfl (lv_at hl 0 rfl) ?_
        cases b_sw with
        | false =>
          refine va_get (ci := 6) (v := .ref q7) (C := RX6) (T := TX6) (N := 8) hx hb hts hiX6 hown hK hP 0 rfl rfl 5 (by decide) hf34 (fun _ h9 => h9) rfl dX6_layOut_20 ?_
          refine va_get (ci := 1) (v := .int (iI x_spare_length)) (C := RX1) (T := TX1) (N := 2) hx hb hts hiX1 hown hK hP 7 rfl rfl 1 (by decide) hf75 (fun _ h9 => h9) rfl dX6_layOut_23 ?_
          refine lv_istore (lv' := [(5, .int (iI x_spare_length)), (0, .ref q0), (1, .int (iI l1)), (2, .int (iI l2)), (3, .int (iI l3)), (4, .int (iI l4))]) hx hb dX6_layOut_26 hl (by decide) rfl (fun ls hl => ?_)
          refine lv_aload_n hx hb dX6_layOut_28 rfl (lv_at hl 1 rfl) ?_
          refine va_get (ci := 6) (v := .ref q7) (C := RX6) (T := TX6) (N := 8) hx hb hts hiX6 hown hK hP 0 rfl rfl 5 (by decide) hf34 (fun _ h9 => h9) rfl dX6_layOut_29 ?_
          refine lv_aload_n hx hb dX6_layOut_32 rfl (lv_at hl 1 rfl) ?_
          refine va_get (ci := 6) (v := .ref q5) (C := RX6) (T := TX6) (N := 8) hx hb hts hiX6 hown hK hP 0 rfl rfl 4 (by decide) hf30 (fun _ h9 => h9) rfl dX6_layOut_33 ?_
          refine va_get (ci := 1) (v := .ref q6) (C := RX1) (T := TX1) (N := 2) hx hb hts hiX1 hown hK hP 5 rfl rfl 0 (by decide) hf101 (fun _ h9 => h9) rfl dX6_layOut_36 ?_
          refine lv_aload_n hx hb dX6_layOut_39 rfl (lv_at hl 1 rfl) ?_
          refine va_get (ci := 6) (v := .ref q2) (C := RX6) (T := TX6) (N := 8) hx hb hts hiX6 hown hK hP 0 rfl rfl 1 (by decide) hf15 (fun _ h9 => h9) rfl dX6_layOut_40 ?_
          refine lv_iload hx hb dX6_layOut_43 (lv_at hl 5 rfl) ?_
          refine k_iald hx hb hK hP 2 0 rfl rfl (Nat.le_of_ble_eq_true rfl) hs dX6_layOut_45 (fun vz2 hs => ?_)
          refine lv_aload_n hx hb dX6_layOut_46 rfl (lv_at hl 1 rfl) ?_
          refine va_get (ci := 6) (v := .ref q3) (C := RX6) (T := TX6) (N := 8) hx hb hts hiX6 hown hK hP 0 rfl rfl 2 (by decide) hf19 (fun _ h9 => h9) rfl dX6_layOut_47 ?_
          refine lv_iload hx hb dX6_layOut_50 (lv_at hl 5 rfl) ?_
          refine k_iald hx hb hK hP 3 0 rfl rfl (Nat.le_of_ble_eq_true rfl) hs dX6_layOut_52 (fun vz3 hs => ?_)
          obtain ⟨vz4, vz5, hcz, hs⟩ := bd2_some hs
          refine k_wV (As := [.ref q6, .int (iI vz2), .int (iI vz3)]) (rest := []) (st1 := []) (wc := [(q7, .inr (1, [.ref q8, .int (iI x_spare_length)])), (q8, .inl (cI, 640, .inl (mI a_spare_bytes))), (q6, .inl (cI, 640, .inl (mI a_area_bytes)))]) (w1 := [(q7, .inr (1, [.ref q8, .int (iI vz4)])), (q8, .inl (cI, 640, .inl (mI vz5))), (q6, .inl (cI, 640, .inl (mI a_area_bytes)))]) ⟨hx, hb, hml, hown, hts⟩ hK hP hD hSz hA [7, 8, 6] rfl (by decide) (c_X1_appendRun l D cI cZ cJ (Nat.le_of_ble_eq_true rfl) (Nat.le_of_ble_eq_true rfl) hcz) (cwV 3 hts gX6_layOut_X1_appendRun rfl rfl rfl (by decide +kernel) ⟨Nat.le_of_ble_eq_true rfl, Nat.le_of_ble_eq_true rfl⟩) 7 rfl rfl rfl rfl rfl hl.1 rfl (lv_room (Nat.le_of_ble_eq_true rfl)) dX6_layOut_53 ⟨Nat.zero_le _, Nat.zero_le _⟩ rfl (fun Hz lz hP hD hSz => ?_)
          have hP : va_P D vwCl (wS cI cZ cJ q0 q1 q2 q3 q4 q5 q6 q7 q8 x_slots x_built false x_folding_on a_starts a_lengths a_overlaps x_area_length a_area_bytes vz4 vz5) Hz := hP
          have hD : va_D Az (wS cI cZ cJ q0 q1 q2 q3 q4 q5 q6 q7 q8 x_slots x_built false x_folding_on a_starts a_lengths a_overlaps x_area_length a_area_bytes vz4 vz5) := hD
          refine lv_iload hx hb dX6_layOut_56 (lv_at hl 5 rfl) ?_
          refine lv_iload_n hx hb dX6_layOut_58 rfl (lv_at hl 2 rfl) ?_
          refine k_icmp_ne (tgt := 78) hx hb hs dX6_layOut_59 (by decide) (fun hs => ?_) (fun hs => ?_)
          · refine lv_aload_n hx hb dX6_layOut_62 rfl (lv_at hl 1 rfl) ?_
            refine va_get (ci := 6) (v := .ref q7) (C := RX6) (T := TX6) (N := 8) hx hb hts hiX6 hown hK hP 0 rfl rfl 5 (by decide) hf34 (fun _ h9 => h9) rfl dX6_layOut_63 ?_
            refine lv_aload_n hx hb dX6_layOut_66 rfl (lv_at hl 1 rfl) ?_
            refine va_get (ci := 6) (v := .ref q5) (C := RX6) (T := TX6) (N := 8) hx hb hts hiX6 hown hK hP 0 rfl rfl 4 (by decide) hf30 (fun _ h9 => h9) rfl dX6_layOut_67 ?_
            refine va_get (ci := 1) (v := .ref q6) (C := RX1) (T := TX1) (N := 2) hx hb hts hiX1 hown hK hP 5 rfl rfl 0 (by decide) hf101 (fun _ h9 => h9) rfl dX6_layOut_70 ?_
            refine lv_iload_n hx hb dX6_layOut_73 rfl (lv_at hl 3 rfl) ?_
            refine lv_iload_n hx hb dX6_layOut_74 rfl (lv_at hl 4 rfl) ?_
            obtain ⟨vz6, vz7, hcz, hs⟩ := bd2_some hs
            refine k_wV (As := [.ref q6, .int (iI l2), .int (iI l3)]) (rest := []) (st1 := []) (wc := [(q7, .inr (1, [.ref q8, .int (iI vz4)])), (q8, .inl (cI, 640, .inl (mI vz5))), (q6, .inl (cI, 640, .inl (mI a_area_bytes)))]) (w1 := [(q7, .inr (1, [.ref q8, .int (iI vz6)])), (q8, .inl (cI, 640, .inl (mI vz7))), (q6, .inl (cI, 640, .inl (mI a_area_bytes)))]) ⟨hx, hb, hml, hown, hts⟩ hK hP hD hSz hA [7, 8, 6] rfl (by decide) (c_X1_appendRun l D cI cZ cJ (Nat.le_of_ble_eq_true rfl) (Nat.le_of_ble_eq_true rfl) hcz) (cwV 3 hts gX6_layOut_X1_appendRun rfl rfl rfl (by decide +kernel) ⟨Nat.le_of_ble_eq_true rfl, Nat.le_of_ble_eq_true rfl⟩) 7 rfl rfl rfl rfl rfl hl.1 rfl (lv_room (Nat.le_of_ble_eq_true rfl)) dX6_layOut_75 ⟨Nat.zero_le _, Nat.zero_le _⟩ rfl (fun Hz lz hP hD hSz => ?_)
            have hP : va_P D vwCl (wS cI cZ cJ q0 q1 q2 q3 q4 q5 q6 q7 q8 x_slots x_built false x_folding_on a_starts a_lengths a_overlaps x_area_length a_area_bytes vz6 vz7) Hz := hP
            have hD : va_D Az (wS cI cZ cJ q0 q1 q2 q3 q4 q5 q6 q7 q8 x_slots x_built false x_folding_on a_starts a_lengths a_overlaps x_area_length a_area_bytes vz6 vz7) := hD
            refine lv_aload_n hx hb dX6_layOut_78 rfl (lv_at hl 1 rfl) ?_
            refine va_get (ci := 6) (v := .ref q2) (C := RX6) (T := TX6) (N := 8) hx hb hts hiX6 hown hK hP 0 rfl rfl 1 (by decide) hf15 (fun _ h9 => h9) rfl dX6_layOut_79 ?_
            refine lv_iload hx hb dX6_layOut_82 (lv_at hl 5 rfl) ?_
            refine lv_iload hx hb dX6_layOut_84 (lv_at hl 0 rfl) ?_
            refine k_iast hx hb hK hP hD hSz 2 0 rfl rfl (Nat.le_of_ble_eq_true rfl) hs dX6_layOut_86 (fun Hz lz hP hD hSz hs => ?_)
            have hP : va_P D vwCl (wS cI cZ cJ q0 q1 q2 q3 q4 q5 q6 q7 q8 x_slots x_built false x_folding_on (upA a_starts l4 x_spare_length) a_lengths a_overlaps x_area_length a_area_bytes vz6 vz7) Hz := hP
            have hD : va_D Az (wS cI cZ cJ q0 q1 q2 q3 q4 q5 q6 q7 q8 x_slots x_built false x_folding_on (upA a_starts l4 x_spare_length) a_lengths a_overlaps x_area_length a_area_bytes vz6 vz7) := hD
            refine lv_aload_n hx hb dX6_layOut_87 rfl (lv_at hl 1 rfl) ?_
            refine va_get (ci := 6) (v := .ref q3) (C := RX6) (T := TX6) (N := 8) hx hb hts hiX6 hown hK hP 0 rfl rfl 2 (by decide) hf19 (fun _ h9 => h9) rfl dX6_layOut_88 ?_
            refine lv_iload hx hb dX6_layOut_91 (lv_at hl 5 rfl) ?_
            refine lv_aload_n hx hb dX6_layOut_93 rfl (lv_at hl 1 rfl) ?_
            refine va_get (ci := 6) (v := .ref q7) (C := RX6) (T := TX6) (N := 8) hx hb hts hiX6 hown hK hP 0 rfl rfl 5 (by decide) hf34 (fun _ h9 => h9) rfl dX6_layOut_94 ?_
            refine va_get (ci := 1) (v := .int (iI vz6)) (C := RX1) (T := TX1) (N := 2) hx hb hts hiX1 hown hK hP 7 rfl rfl 1 (by decide) hf75 (fun _ h9 => h9) rfl dX6_layOut_97 ?_
            refine lv_iload hx hb dX6_layOut_100 (lv_at hl 0 rfl) ?_
            refine k_isub hx hb dX6_layOut_102 ?_
            refine k_iast hx hb hK hP hD hSz 3 0 rfl rfl (Nat.le_of_ble_eq_true rfl) hs dX6_layOut_103 (fun Hz lz hP hD hSz hs => ?_)
            have hP : va_P D vwCl (wS cI cZ cJ q0 q1 q2 q3 q4 q5 q6 q7 q8 x_slots x_built false x_folding_on (upA a_starts l4 x_spare_length) (upA a_lengths l4 (vz6 - x_spare_length)) a_overlaps x_area_length a_area_bytes vz6 vz7) Hz := hP
            have hD : va_D Az (wS cI cZ cJ q0 q1 q2 q3 q4 q5 q6 q7 q8 x_slots x_built false x_folding_on (upA a_starts l4 x_spare_length) (upA a_lengths l4 (vz6 - x_spare_length)) a_overlaps x_area_length a_area_bytes vz6 vz7) := hD
            refine k_iinc (x := l4) (k := 5) (lv' := [(4, .int (iI (l4 + 1))), (5, .int (iI x_spare_length)), (0, .ref q0), (1, .int (iI l1)), (2, .int (iI l2)), (3, .int (iI l3))]) hx hb dX6_layOut_104 hl rfl (by decide) rfl (fun ls hl => ?_)
            refine lv_goto (tgt := 10) hx hb dX6_layOut_107 (by decide) ?_
            exact ih false (upA a_starts l4 x_spare_length) (upA a_lengths l4 (vz6 - x_spare_length)) x_area_length a_area_bytes vz6 vz7 l1 l2 l3 (l4 + 1) y0 y1 y2 y3 hs Hz lz hP hD hSz ls (lv_sub hl [2, 3, 4, 5, 0] rfl) kx
          · refine lv_aload_n hx hb dX6_layOut_78 rfl (lv_at hl 1 rfl) ?_
            refine va_get (ci := 6) (v := .ref q2) (C := RX6) (T := TX6) (N := 8) hx hb hts hiX6 hown hK hP 0 rfl rfl 1 (by decide) hf15 (fun _ h9 => h9) rfl dX6_layOut_79 ?_
            refine lv_iload hx hb dX6_layOut_82 (lv_at hl 5 rfl) ?_
            refine lv_iload hx hb dX6_layOut_84 (lv_at hl 0 rfl) ?_
            refine k_iast hx hb hK hP hD hSz 2 0 rfl rfl (Nat.le_of_ble_eq_true rfl) hs dX6_layOut_86 (fun Hz lz hP hD hSz hs => ?_)
            have hP : va_P D vwCl (wS cI cZ cJ q0 q1 q2 q3 q4 q5 q6 q7 q8 x_slots x_built false x_folding_on (upA a_starts l4 x_spare_length) a_lengths a_overlaps x_area_length a_area_bytes vz4 vz5) Hz := hP
            have hD : va_D Az (wS cI cZ cJ q0 q1 q2 q3 q4 q5 q6 q7 q8 x_slots x_built false x_folding_on (upA a_starts l4 x_spare_length) a_lengths a_overlaps x_area_length a_area_bytes vz4 vz5) := hD
            refine lv_aload_n hx hb dX6_layOut_87 rfl (lv_at hl 1 rfl) ?_
            refine va_get (ci := 6) (v := .ref q3) (C := RX6) (T := TX6) (N := 8) hx hb hts hiX6 hown hK hP 0 rfl rfl 2 (by decide) hf19 (fun _ h9 => h9) rfl dX6_layOut_88 ?_
            refine lv_iload hx hb dX6_layOut_91 (lv_at hl 5 rfl) ?_
            refine lv_aload_n hx hb dX6_layOut_93 rfl (lv_at hl 1 rfl) ?_
            refine va_get (ci := 6) (v := .ref q7) (C := RX6) (T := TX6) (N := 8) hx hb hts hiX6 hown hK hP 0 rfl rfl 5 (by decide) hf34 (fun _ h9 => h9) rfl dX6_layOut_94 ?_
            refine va_get (ci := 1) (v := .int (iI vz4)) (C := RX1) (T := TX1) (N := 2) hx hb hts hiX1 hown hK hP 7 rfl rfl 1 (by decide) hf75 (fun _ h9 => h9) rfl dX6_layOut_97 ?_
            refine lv_iload hx hb dX6_layOut_100 (lv_at hl 0 rfl) ?_
            refine k_isub hx hb dX6_layOut_102 ?_
            refine k_iast hx hb hK hP hD hSz 3 0 rfl rfl (Nat.le_of_ble_eq_true rfl) hs dX6_layOut_103 (fun Hz lz hP hD hSz hs => ?_)
            have hP : va_P D vwCl (wS cI cZ cJ q0 q1 q2 q3 q4 q5 q6 q7 q8 x_slots x_built false x_folding_on (upA a_starts l4 x_spare_length) (upA a_lengths l4 (vz4 - x_spare_length)) a_overlaps x_area_length a_area_bytes vz4 vz5) Hz := hP
            have hD : va_D Az (wS cI cZ cJ q0 q1 q2 q3 q4 q5 q6 q7 q8 x_slots x_built false x_folding_on (upA a_starts l4 x_spare_length) (upA a_lengths l4 (vz4 - x_spare_length)) a_overlaps x_area_length a_area_bytes vz4 vz5) := hD
            refine k_iinc (x := l4) (k := 5) (lv' := [(4, .int (iI (l4 + 1))), (5, .int (iI x_spare_length)), (0, .ref q0), (1, .int (iI l1)), (2, .int (iI l2)), (3, .int (iI l3))]) hx hb dX6_layOut_104 hl rfl (by decide) rfl (fun ls hl => ?_)
            refine lv_goto (tgt := 10) hx hb dX6_layOut_107 (by decide) ?_
            exact ih false (upA a_starts l4 x_spare_length) (upA a_lengths l4 (vz4 - x_spare_length)) x_area_length a_area_bytes vz4 vz5 l1 l2 l3 (l4 + 1) y0 y1 y2 y3 hs Hz lz hP hD hSz ls (lv_sub hl [2, 3, 4, 5, 0] rfl) kx
        | true =>
          refine va_get (ci := 6) (v := .ref q5) (C := RX6) (T := TX6) (N := 8) hx hb hts hiX6 hown hK hP 0 rfl rfl 5 (by decide) hf34 (fun _ h9 => h9) rfl dX6_layOut_20 ?_
          refine va_get (ci := 1) (v := .int (iI x_spare_length)) (C := RX1) (T := TX1) (N := 2) hx hb hts hiX1 hown hK hP 5 rfl rfl 1 (by decide) hf75 (fun _ h9 => h9) rfl dX6_layOut_23 ?_
          refine lv_istore (lv' := [(5, .int (iI x_spare_length)), (0, .ref q0), (1, .int (iI l1)), (2, .int (iI l2)), (3, .int (iI l3)), (4, .int (iI l4))]) hx hb dX6_layOut_26 hl (by decide) rfl (fun ls hl => ?_)
          refine lv_aload_n hx hb dX6_layOut_28 rfl (lv_at hl 1 rfl) ?_
          refine va_get (ci := 6) (v := .ref q5) (C := RX6) (T := TX6) (N := 8) hx hb hts hiX6 hown hK hP 0 rfl rfl 5 (by decide) hf34 (fun _ h9 => h9) rfl dX6_layOut_29 ?_
          refine lv_aload_n hx hb dX6_layOut_32 rfl (lv_at hl 1 rfl) ?_
          refine va_get (ci := 6) (v := .ref q7) (C := RX6) (T := TX6) (N := 8) hx hb hts hiX6 hown hK hP 0 rfl rfl 4 (by decide) hf30 (fun _ h9 => h9) rfl dX6_layOut_33 ?_
          refine va_get (ci := 1) (v := .ref q8) (C := RX1) (T := TX1) (N := 2) hx hb hts hiX1 hown hK hP 7 rfl rfl 0 (by decide) hf101 (fun _ h9 => h9) rfl dX6_layOut_36 ?_
          refine lv_aload_n hx hb dX6_layOut_39 rfl (lv_at hl 1 rfl) ?_
          refine va_get (ci := 6) (v := .ref q2) (C := RX6) (T := TX6) (N := 8) hx hb hts hiX6 hown hK hP 0 rfl rfl 1 (by decide) hf15 (fun _ h9 => h9) rfl dX6_layOut_40 ?_
          refine lv_iload hx hb dX6_layOut_43 (lv_at hl 5 rfl) ?_
          refine k_iald hx hb hK hP 2 0 rfl rfl (Nat.le_of_ble_eq_true rfl) hs dX6_layOut_45 (fun vz8 hs => ?_)
          refine lv_aload_n hx hb dX6_layOut_46 rfl (lv_at hl 1 rfl) ?_
          refine va_get (ci := 6) (v := .ref q3) (C := RX6) (T := TX6) (N := 8) hx hb hts hiX6 hown hK hP 0 rfl rfl 2 (by decide) hf19 (fun _ h9 => h9) rfl dX6_layOut_47 ?_
          refine lv_iload hx hb dX6_layOut_50 (lv_at hl 5 rfl) ?_
          refine k_iald hx hb hK hP 3 0 rfl rfl (Nat.le_of_ble_eq_true rfl) hs dX6_layOut_52 (fun vz9 hs => ?_)
          obtain ⟨vz10, vz11, hcz, hs⟩ := bd2_some hs
          refine k_wV (As := [.ref q8, .int (iI vz8), .int (iI vz9)]) (rest := []) (st1 := []) (wc := [(q5, .inr (1, [.ref q6, .int (iI x_spare_length)])), (q6, .inl (cI, 640, .inl (mI a_spare_bytes))), (q8, .inl (cI, 640, .inl (mI a_area_bytes)))]) (w1 := [(q5, .inr (1, [.ref q6, .int (iI vz10)])), (q6, .inl (cI, 640, .inl (mI vz11))), (q8, .inl (cI, 640, .inl (mI a_area_bytes)))]) ⟨hx, hb, hml, hown, hts⟩ hK hP hD hSz hA [5, 6, 8] rfl (by decide) (c_X1_appendRun l D cI cZ cJ (Nat.le_of_ble_eq_true rfl) (Nat.le_of_ble_eq_true rfl) hcz) (cwV 3 hts gX6_layOut_X1_appendRun rfl rfl rfl (by decide +kernel) ⟨Nat.le_of_ble_eq_true rfl, Nat.le_of_ble_eq_true rfl⟩) 5 rfl rfl rfl rfl rfl hl.1 rfl (lv_room (Nat.le_of_ble_eq_true rfl)) dX6_layOut_53 ⟨Nat.zero_le _, Nat.zero_le _⟩ rfl (fun Hz lz hP hD hSz => ?_)
          have hP : va_P D vwCl (wS cI cZ cJ q0 q1 q2 q3 q4 q5 q6 q7 q8 x_slots x_built true x_folding_on a_starts a_lengths a_overlaps x_area_length a_area_bytes vz10 vz11) Hz := hP
          have hD : va_D Az (wS cI cZ cJ q0 q1 q2 q3 q4 q5 q6 q7 q8 x_slots x_built true x_folding_on a_starts a_lengths a_overlaps x_area_length a_area_bytes vz10 vz11) := hD
          refine lv_iload hx hb dX6_layOut_56 (lv_at hl 5 rfl) ?_
          refine lv_iload_n hx hb dX6_layOut_58 rfl (lv_at hl 2 rfl) ?_
          refine k_icmp_ne (tgt := 78) hx hb hs dX6_layOut_59 (by decide) (fun hs => ?_) (fun hs => ?_)
          · refine lv_aload_n hx hb dX6_layOut_62 rfl (lv_at hl 1 rfl) ?_
            refine va_get (ci := 6) (v := .ref q5) (C := RX6) (T := TX6) (N := 8) hx hb hts hiX6 hown hK hP 0 rfl rfl 5 (by decide) hf34 (fun _ h9 => h9) rfl dX6_layOut_63 ?_
            refine lv_aload_n hx hb dX6_layOut_66 rfl (lv_at hl 1 rfl) ?_
            refine va_get (ci := 6) (v := .ref q7) (C := RX6) (T := TX6) (N := 8) hx hb hts hiX6 hown hK hP 0 rfl rfl 4 (by decide) hf30 (fun _ h9 => h9) rfl dX6_layOut_67 ?_
            refine va_get (ci := 1) (v := .ref q8) (C := RX1) (T := TX1) (N := 2) hx hb hts hiX1 hown hK hP 7 rfl rfl 0 (by decide) hf101 (fun _ h9 => h9) rfl dX6_layOut_70 ?_
            refine lv_iload_n hx hb dX6_layOut_73 rfl (lv_at hl 3 rfl) ?_
            refine lv_iload_n hx hb dX6_layOut_74 rfl (lv_at hl 4 rfl) ?_
            obtain ⟨vz12, vz13, hcz, hs⟩ := bd2_some hs
            refine k_wV (As := [.ref q8, .int (iI l2), .int (iI l3)]) (rest := []) (st1 := []) (wc := [(q5, .inr (1, [.ref q6, .int (iI vz10)])), (q6, .inl (cI, 640, .inl (mI vz11))), (q8, .inl (cI, 640, .inl (mI a_area_bytes)))]) (w1 := [(q5, .inr (1, [.ref q6, .int (iI vz12)])), (q6, .inl (cI, 640, .inl (mI vz13))), (q8, .inl (cI, 640, .inl (mI a_area_bytes)))]) ⟨hx, hb, hml, hown, hts⟩ hK hP hD hSz hA [5, 6, 8] rfl (by decide) (c_X1_appendRun l D cI cZ cJ (Nat.le_of_ble_eq_true rfl) (Nat.le_of_ble_eq_true rfl) hcz) (cwV 3 hts gX6_layOut_X1_appendRun rfl rfl rfl (by decide +kernel) ⟨Nat.le_of_ble_eq_true rfl, Nat.le_of_ble_eq_true rfl⟩) 5 rfl rfl rfl rfl rfl hl.1 rfl (lv_room (Nat.le_of_ble_eq_true rfl)) dX6_layOut_75 ⟨Nat.zero_le _, Nat.zero_le _⟩ rfl (fun Hz lz hP hD hSz => ?_)
            have hP : va_P D vwCl (wS cI cZ cJ q0 q1 q2 q3 q4 q5 q6 q7 q8 x_slots x_built true x_folding_on a_starts a_lengths a_overlaps x_area_length a_area_bytes vz12 vz13) Hz := hP
            have hD : va_D Az (wS cI cZ cJ q0 q1 q2 q3 q4 q5 q6 q7 q8 x_slots x_built true x_folding_on a_starts a_lengths a_overlaps x_area_length a_area_bytes vz12 vz13) := hD
            refine lv_aload_n hx hb dX6_layOut_78 rfl (lv_at hl 1 rfl) ?_
            refine va_get (ci := 6) (v := .ref q2) (C := RX6) (T := TX6) (N := 8) hx hb hts hiX6 hown hK hP 0 rfl rfl 1 (by decide) hf15 (fun _ h9 => h9) rfl dX6_layOut_79 ?_
            refine lv_iload hx hb dX6_layOut_82 (lv_at hl 5 rfl) ?_
            refine lv_iload hx hb dX6_layOut_84 (lv_at hl 0 rfl) ?_
            refine k_iast hx hb hK hP hD hSz 2 0 rfl rfl (Nat.le_of_ble_eq_true rfl) hs dX6_layOut_86 (fun Hz lz hP hD hSz hs => ?_)
            have hP : va_P D vwCl (wS cI cZ cJ q0 q1 q2 q3 q4 q5 q6 q7 q8 x_slots x_built true x_folding_on (upA a_starts l4 x_spare_length) a_lengths a_overlaps x_area_length a_area_bytes vz12 vz13) Hz := hP
            have hD : va_D Az (wS cI cZ cJ q0 q1 q2 q3 q4 q5 q6 q7 q8 x_slots x_built true x_folding_on (upA a_starts l4 x_spare_length) a_lengths a_overlaps x_area_length a_area_bytes vz12 vz13) := hD
            refine lv_aload_n hx hb dX6_layOut_87 rfl (lv_at hl 1 rfl) ?_
            refine va_get (ci := 6) (v := .ref q3) (C := RX6) (T := TX6) (N := 8) hx hb hts hiX6 hown hK hP 0 rfl rfl 2 (by decide) hf19 (fun _ h9 => h9) rfl dX6_layOut_88 ?_
            refine lv_iload hx hb dX6_layOut_91 (lv_at hl 5 rfl) ?_
            refine lv_aload_n hx hb dX6_layOut_93 rfl (lv_at hl 1 rfl) ?_
            refine va_get (ci := 6) (v := .ref q5) (C := RX6) (T := TX6) (N := 8) hx hb hts hiX6 hown hK hP 0 rfl rfl 5 (by decide) hf34 (fun _ h9 => h9) rfl dX6_layOut_94 ?_
            refine va_get (ci := 1) (v := .int (iI vz12)) (C := RX1) (T := TX1) (N := 2) hx hb hts hiX1 hown hK hP 5 rfl rfl 1 (by decide) hf75 (fun _ h9 => h9) rfl dX6_layOut_97 ?_
            refine lv_iload hx hb dX6_layOut_100 (lv_at hl 0 rfl) ?_
            refine k_isub hx hb dX6_layOut_102 ?_
            refine k_iast hx hb hK hP hD hSz 3 0 rfl rfl (Nat.le_of_ble_eq_true rfl) hs dX6_layOut_103 (fun Hz lz hP hD hSz hs => ?_)
            have hP : va_P D vwCl (wS cI cZ cJ q0 q1 q2 q3 q4 q5 q6 q7 q8 x_slots x_built true x_folding_on (upA a_starts l4 x_spare_length) (upA a_lengths l4 (vz12 - x_spare_length)) a_overlaps x_area_length a_area_bytes vz12 vz13) Hz := hP
            have hD : va_D Az (wS cI cZ cJ q0 q1 q2 q3 q4 q5 q6 q7 q8 x_slots x_built true x_folding_on (upA a_starts l4 x_spare_length) (upA a_lengths l4 (vz12 - x_spare_length)) a_overlaps x_area_length a_area_bytes vz12 vz13) := hD
            refine k_iinc (x := l4) (k := 5) (lv' := [(4, .int (iI (l4 + 1))), (5, .int (iI x_spare_length)), (0, .ref q0), (1, .int (iI l1)), (2, .int (iI l2)), (3, .int (iI l3))]) hx hb dX6_layOut_104 hl rfl (by decide) rfl (fun ls hl => ?_)
            refine lv_goto (tgt := 10) hx hb dX6_layOut_107 (by decide) ?_
            exact ih true (upA a_starts l4 x_spare_length) (upA a_lengths l4 (vz12 - x_spare_length)) x_area_length a_area_bytes vz12 vz13 l1 l2 l3 (l4 + 1) y0 y1 y2 y3 hs Hz lz hP hD hSz ls (lv_sub hl [2, 3, 4, 5, 0] rfl) kx
          · refine lv_aload_n hx hb dX6_layOut_78 rfl (lv_at hl 1 rfl) ?_
            refine va_get (ci := 6) (v := .ref q2) (C := RX6) (T := TX6) (N := 8) hx hb hts hiX6 hown hK hP 0 rfl rfl 1 (by decide) hf15 (fun _ h9 => h9) rfl dX6_layOut_79 ?_
            refine lv_iload hx hb dX6_layOut_82 (lv_at hl 5 rfl) ?_
            refine lv_iload hx hb dX6_layOut_84 (lv_at hl 0 rfl) ?_
            refine k_iast hx hb hK hP hD hSz 2 0 rfl rfl (Nat.le_of_ble_eq_true rfl) hs dX6_layOut_86 (fun Hz lz hP hD hSz hs => ?_)
            have hP : va_P D vwCl (wS cI cZ cJ q0 q1 q2 q3 q4 q5 q6 q7 q8 x_slots x_built true x_folding_on (upA a_starts l4 x_spare_length) a_lengths a_overlaps x_area_length a_area_bytes vz10 vz11) Hz := hP
            have hD : va_D Az (wS cI cZ cJ q0 q1 q2 q3 q4 q5 q6 q7 q8 x_slots x_built true x_folding_on (upA a_starts l4 x_spare_length) a_lengths a_overlaps x_area_length a_area_bytes vz10 vz11) := hD
            refine lv_aload_n hx hb dX6_layOut_87 rfl (lv_at hl 1 rfl) ?_
            refine va_get (ci := 6) (v := .ref q3) (C := RX6) (T := TX6) (N := 8) hx hb hts hiX6 hown hK hP 0 rfl rfl 2 (by decide) hf19 (fun _ h9 => h9) rfl dX6_layOut_88 ?_
            refine lv_iload hx hb dX6_layOut_91 (lv_at hl 5 rfl) ?_
            refine lv_aload_n hx hb dX6_layOut_93 rfl (lv_at hl 1 rfl) ?_
            refine va_get (ci := 6) (v := .ref q5) (C := RX6) (T := TX6) (N := 8) hx hb hts hiX6 hown hK hP 0 rfl rfl 5 (by decide) hf34 (fun _ h9 => h9) rfl dX6_layOut_94 ?_
            refine va_get (ci := 1) (v := .int (iI vz10)) (C := RX1) (T := TX1) (N := 2) hx hb hts hiX1 hown hK hP 5 rfl rfl 1 (by decide) hf75 (fun _ h9 => h9) rfl dX6_layOut_97 ?_
            refine lv_iload hx hb dX6_layOut_100 (lv_at hl 0 rfl) ?_
            refine k_isub hx hb dX6_layOut_102 ?_
            refine k_iast hx hb hK hP hD hSz 3 0 rfl rfl (Nat.le_of_ble_eq_true rfl) hs dX6_layOut_103 (fun Hz lz hP hD hSz hs => ?_)
            have hP : va_P D vwCl (wS cI cZ cJ q0 q1 q2 q3 q4 q5 q6 q7 q8 x_slots x_built true x_folding_on (upA a_starts l4 x_spare_length) (upA a_lengths l4 (vz10 - x_spare_length)) a_overlaps x_area_length a_area_bytes vz10 vz11) Hz := hP
            have hD : va_D Az (wS cI cZ cJ q0 q1 q2 q3 q4 q5 q6 q7 q8 x_slots x_built true x_folding_on (upA a_starts l4 x_spare_length) (upA a_lengths l4 (vz10 - x_spare_length)) a_overlaps x_area_length a_area_bytes vz10 vz11) := hD
            refine k_iinc (x := l4) (k := 5) (lv' := [(4, .int (iI (l4 + 1))), (5, .int (iI x_spare_length)), (0, .ref q0), (1, .int (iI l1)), (2, .int (iI l2)), (3, .int (iI l3))]) hx hb dX6_layOut_104 hl rfl (by decide) rfl (fun ls hl => ?_)
            refine lv_goto (tgt := 10) hx hb dX6_layOut_107 (by decide) ?_
            exact ih true (upA a_starts l4 x_spare_length) (upA a_lengths l4 (vz10 - x_spare_length)) x_area_length a_area_bytes vz10 vz11 l1 l2 l3 (l4 + 1) y0 y1 y2 y3 hs Hz lz hP hD hSz ls (lv_sub hl [2, 3, 4, 5, 0] rfl) kx
      · cases hs
        exact kx Hz lz hP hD hSz ls (lv_sub hl [0] rfl)
  refine (?_ : ∀ (Hz : Heap) (lz : List Loc), va_P D vwCl (wS cI cZ cJ q0 q1 q2 q3 q4 q5 q6 q7 q8 x_slots x_built b_sw x_folding_on a_starts a_lengths a_overlaps x_area_length a_area_bytes x_spare_length a_spare_bytes) Hz → va_D Az (wS cI cZ cJ q0 q1 q2 q3 q4 q5 q6 q7 q8 x_slots x_built b_sw x_folding_on a_starts a_lengths a_overlaps x_area_length a_area_bytes x_spare_length a_spare_bytes) → va_S Az s.heap Hz lz → W p l e (headSpec wsX6_layOut rm_X6_layOut).room s m args below meth c Hz lz 0 0 (MQ below (QW D vwCl none wz Az) args s 0 0 Az) (F0 m 0 ls [])) s.heap [] hP hD hSz
  intro Hz lz hP hD hSz
  refine lv_aload_n hx hb dX6_layOut_0 rfl (lv_at hl 0 rfl) ?_
  cases b_sw with
  | false =>
    refine va_get (ci := 6) (v := .ref q7) (C := RX6) (T := TX6) (N := 8) hx hb hts hiX6 hown hK hP 0 rfl rfl 5 (by decide) hf34 (fun _ h9 => h9) rfl dX6_layOut_1 ?_
    obtain ⟨vz1, hcz, hs⟩ := bd1_some hs
    refine k_wV (As := []) (rest := []) (st1 := []) (wc := [(q7, .inr (1, [.ref q8, .int (iI x_spare_length)])), (q8, .inl (cI, 640, .inl (mI a_spare_bytes)))]) (w1 := [(q7, .inr (1, [.ref q8, .int (iI vz1)])), (q8, .inl (cI, 640, .inl (mI a_spare_bytes)))]) ⟨hx, hb, hml, hown, hts⟩ hK hP hD hSz hA [7, 8] rfl (by decide) (c_X1_clear l D cI cZ cJ (Nat.le_of_ble_eq_true rfl) hcz) (cwV 0 hts gX6_layOut_X1_clear rfl rfl rfl (by decide +kernel) ⟨Nat.le_of_ble_eq_true rfl, Nat.le_of_ble_eq_true rfl⟩) 7 rfl rfl rfl rfl rfl hl.1 rfl (lv_room (Nat.le_of_ble_eq_true rfl)) dX6_layOut_4 ⟨Nat.zero_le _, Nat.zero_le _⟩ rfl (fun Hz lz hP hD hSz => ?_)
    have hP : va_P D vwCl (wS cI cZ cJ q0 q1 q2 q3 q4 q5 q6 q7 q8 x_slots x_built false x_folding_on a_starts a_lengths a_overlaps x_area_length a_area_bytes vz1 a_spare_bytes) Hz := hP
    have hD : va_D Az (wS cI cZ cJ q0 q1 q2 q3 q4 q5 q6 q7 q8 x_slots x_built false x_folding_on a_starts a_lengths a_overlaps x_area_length a_area_bytes vz1 a_spare_bytes) := hD
    refine k_iconst (n := 0) hx hb dX6_layOut_7 ?_
    refine lv_istore (lv' := [(4, .int (iI 0)), (0, .ref q0), (1, .int (iI pz1)), (2, .int (iI pz2)), (3, .int (iI pz3))]) hx hb dX6_layOut_8 hl (by decide) rfl (fun ls hl => ?_)
    obtain ⟨ez14, ez15, ez16, ez17, hq, hs⟩ := bd4_some hs
    refine Lz10 FU false a_starts a_lengths x_area_length a_area_bytes vz1 a_spare_bytes pz1 pz2 pz3 0 ez14 ez15 ez16 ez17 hq Hz lz hP hD hSz ls (lv_sub hl [1, 2, 3, 4, 0] rfl) ?_
    intro Hz lz hP hD hSz ls hl
    refine lv_aload_n hx hb dX6_layOut_110 rfl (lv_at hl 0 rfl) ?_
    refine va_get (ci := 6) (v := .ref q5) (C := RX6) (T := TX6) (N := 8) hx hb hts hiX6 hown hK hP 0 rfl rfl 4 (by decide) hf30 (fun _ h9 => h9) rfl dX6_layOut_111 ?_
    refine lv_astore (lv' := [(4, .ref q5), (0, .ref q0)]) hx hb dX6_layOut_114 hl (by decide) rfl (fun ls hl => ?_)
    refine lv_aload_n hx hb dX6_layOut_116 rfl (lv_at hl 1 rfl) ?_
    refine lv_aload_n hx hb dX6_layOut_117 rfl (lv_at hl 1 rfl) ?_
    refine va_get (ci := 6) (v := .ref q7) (C := RX6) (T := TX6) (N := 8) hx hb hts hiX6 hown hK hP 0 rfl rfl 5 (by decide) hf34 (fun _ h9 => h9) rfl dX6_layOut_118 ?_
    refine va_put (ci := 6) (v := .ref q7) (ty := (.object "KeywordMatcher$ByteRow")) (C := RX6) (T := TX6) (N := 8) hx hb hts hiX6 tyX6 tyX6_ok nmX6 hown hK hP hD hSz 0 rfl rfl 4 (by decide) hf30 (fun _ h9 => h9) rfl (by decide +kernel) rfl rfl (Nat.le_of_ble_eq_true rfl) dX6_layOut_121 (fun Hz lz hP hD hSz => ?_)
    have hP : va_P D vwCl [(q0, .inr (6, [.ref q1, .ref q2, .ref q3, .ref q4, .ref q7, .ref q7, .int (iI x_slots), .int (iI x_built)])), (q1, .inr (2, [.int (iI x_folding_on)])), (q2, .inl (cI, 40, .inl (mI ez14))), (q3, .inl (cI, 40, .inl (mI ez15))), (q4, .inl (cI, 1600, .inl (mI a_overlaps))), (q5, .inr (1, [.ref q6, .int (iI x_area_length)])), (q6, .inl (cI, 640, .inl (mI a_area_bytes))), (q7, .inr (1, [.ref q8, .int (iI ez16)])), (q8, .inl (cI, 640, .inl (mI ez17)))] Hz := hP
    have hD : va_D Az [(q0, .inr (6, [.ref q1, .ref q2, .ref q3, .ref q4, .ref q7, .ref q7, .int (iI x_slots), .int (iI x_built)])), (q1, .inr (2, [.int (iI x_folding_on)])), (q2, .inl (cI, 40, .inl (mI ez14))), (q3, .inl (cI, 40, .inl (mI ez15))), (q4, .inl (cI, 1600, .inl (mI a_overlaps))), (q5, .inr (1, [.ref q6, .int (iI x_area_length)])), (q6, .inl (cI, 640, .inl (mI a_area_bytes))), (q7, .inr (1, [.ref q8, .int (iI ez16)])), (q8, .inl (cI, 640, .inl (mI ez17)))] := hD
    refine lv_aload_n hx hb dX6_layOut_124 rfl (lv_at hl 1 rfl) ?_
    refine lv_aload hx hb dX6_layOut_125 (lv_at hl 0 rfl) ?_
    refine va_put (ci := 6) (v := .ref q5) (ty := (.object "KeywordMatcher$ByteRow")) (C := RX6) (T := TX6) (N := 8) hx hb hts hiX6 tyX6 tyX6_ok nmX6 hown hK hP hD hSz 0 rfl rfl 5 (by decide) hf34 (fun _ h9 => h9) rfl (by decide +kernel) rfl rfl (Nat.le_of_ble_eq_true rfl) dX6_layOut_127 (fun Hz lz hP hD hSz => ?_)
    have hP : va_P D vwCl (wS cI cZ cJ q0 q1 q2 q3 q4 q5 q6 q7 q8 x_slots x_built true x_folding_on ez14 ez15 a_overlaps ez16 ez17 x_area_length a_area_bytes) Hz := hP
    have hD : va_D Az (wS cI cZ cJ q0 q1 q2 q3 q4 q5 q6 q7 q8 x_slots x_built true x_folding_on ez14 ez15 a_overlaps ez16 ez17 x_area_length a_area_bytes) := hD
    cases hs
    exact k_vret_w hx hb hr hlk (by rw [hw1]; exact hP) hSz dX6_layOut_130 rfl
  | true =>
    refine va_get (ci := 6) (v := .ref q5) (C := RX6) (T := TX6) (N := 8) hx hb hts hiX6 hown hK hP 0 rfl rfl 5 (by decide) hf34 (fun _ h9 => h9) rfl dX6_layOut_1 ?_
    obtain ⟨vz18, hcz, hs⟩ := bd1_some hs
    refine k_wV (As := []) (rest := []) (st1 := []) (wc := [(q5, .inr (1, [.ref q6, .int (iI x_spare_length)])), (q6, .inl (cI, 640, .inl (mI a_spare_bytes)))]) (w1 := [(q5, .inr (1, [.ref q6, .int (iI vz18)])), (q6, .inl (cI, 640, .inl (mI a_spare_bytes)))]) ⟨hx, hb, hml, hown, hts⟩ hK hP hD hSz hA [5, 6] rfl (by decide) (c_X1_clear l D cI cZ cJ (Nat.le_of_ble_eq_true rfl) hcz) (cwV 0 hts gX6_layOut_X1_clear rfl rfl rfl (by decide +kernel) ⟨Nat.le_of_ble_eq_true rfl, Nat.le_of_ble_eq_true rfl⟩) 5 rfl rfl rfl rfl rfl hl.1 rfl (lv_room (Nat.le_of_ble_eq_true rfl)) dX6_layOut_4 ⟨Nat.zero_le _, Nat.zero_le _⟩ rfl (fun Hz lz hP hD hSz => ?_)
    have hP : va_P D vwCl (wS cI cZ cJ q0 q1 q2 q3 q4 q5 q6 q7 q8 x_slots x_built true x_folding_on a_starts a_lengths a_overlaps x_area_length a_area_bytes vz18 a_spare_bytes) Hz := hP
    have hD : va_D Az (wS cI cZ cJ q0 q1 q2 q3 q4 q5 q6 q7 q8 x_slots x_built true x_folding_on a_starts a_lengths a_overlaps x_area_length a_area_bytes vz18 a_spare_bytes) := hD
    refine k_iconst (n := 0) hx hb dX6_layOut_7 ?_
    refine lv_istore (lv' := [(4, .int (iI 0)), (0, .ref q0), (1, .int (iI pz1)), (2, .int (iI pz2)), (3, .int (iI pz3))]) hx hb dX6_layOut_8 hl (by decide) rfl (fun ls hl => ?_)
    obtain ⟨ez19, ez20, ez21, ez22, hq, hs⟩ := bd4_some hs
    refine Lz10 FU true a_starts a_lengths x_area_length a_area_bytes vz18 a_spare_bytes pz1 pz2 pz3 0 ez19 ez20 ez21 ez22 hq Hz lz hP hD hSz ls (lv_sub hl [1, 2, 3, 4, 0] rfl) ?_
    intro Hz lz hP hD hSz ls hl
    refine lv_aload_n hx hb dX6_layOut_110 rfl (lv_at hl 0 rfl) ?_
    refine va_get (ci := 6) (v := .ref q7) (C := RX6) (T := TX6) (N := 8) hx hb hts hiX6 hown hK hP 0 rfl rfl 4 (by decide) hf30 (fun _ h9 => h9) rfl dX6_layOut_111 ?_
    refine lv_astore (lv' := [(4, .ref q7), (0, .ref q0)]) hx hb dX6_layOut_114 hl (by decide) rfl (fun ls hl => ?_)
    refine lv_aload_n hx hb dX6_layOut_116 rfl (lv_at hl 1 rfl) ?_
    refine lv_aload_n hx hb dX6_layOut_117 rfl (lv_at hl 1 rfl) ?_
    refine va_get (ci := 6) (v := .ref q5) (C := RX6) (T := TX6) (N := 8) hx hb hts hiX6 hown hK hP 0 rfl rfl 5 (by decide) hf34 (fun _ h9 => h9) rfl dX6_layOut_118 ?_
    refine va_put (ci := 6) (v := .ref q5) (ty := (.object "KeywordMatcher$ByteRow")) (C := RX6) (T := TX6) (N := 8) hx hb hts hiX6 tyX6 tyX6_ok nmX6 hown hK hP hD hSz 0 rfl rfl 4 (by decide) hf30 (fun _ h9 => h9) rfl (by decide +kernel) rfl rfl (Nat.le_of_ble_eq_true rfl) dX6_layOut_121 (fun Hz lz hP hD hSz => ?_)
    have hP : va_P D vwCl [(q0, .inr (6, [.ref q1, .ref q2, .ref q3, .ref q4, .ref q5, .ref q5, .int (iI x_slots), .int (iI x_built)])), (q1, .inr (2, [.int (iI x_folding_on)])), (q2, .inl (cI, 40, .inl (mI ez19))), (q3, .inl (cI, 40, .inl (mI ez20))), (q4, .inl (cI, 1600, .inl (mI a_overlaps))), (q5, .inr (1, [.ref q6, .int (iI ez21)])), (q6, .inl (cI, 640, .inl (mI ez22))), (q7, .inr (1, [.ref q8, .int (iI x_area_length)])), (q8, .inl (cI, 640, .inl (mI a_area_bytes)))] Hz := hP
    have hD : va_D Az [(q0, .inr (6, [.ref q1, .ref q2, .ref q3, .ref q4, .ref q5, .ref q5, .int (iI x_slots), .int (iI x_built)])), (q1, .inr (2, [.int (iI x_folding_on)])), (q2, .inl (cI, 40, .inl (mI ez19))), (q3, .inl (cI, 40, .inl (mI ez20))), (q4, .inl (cI, 1600, .inl (mI a_overlaps))), (q5, .inr (1, [.ref q6, .int (iI ez21)])), (q6, .inl (cI, 640, .inl (mI ez22))), (q7, .inr (1, [.ref q8, .int (iI x_area_length)])), (q8, .inl (cI, 640, .inl (mI a_area_bytes)))] := hD
    refine lv_aload_n hx hb dX6_layOut_124 rfl (lv_at hl 1 rfl) ?_
    refine lv_aload hx hb dX6_layOut_125 (lv_at hl 0 rfl) ?_
    refine va_put (ci := 6) (v := .ref q7) (ty := (.object "KeywordMatcher$ByteRow")) (C := RX6) (T := TX6) (N := 8) hx hb hts hiX6 tyX6 tyX6_ok nmX6 hown hK hP hD hSz 0 rfl rfl 5 (by decide) hf34 (fun _ h9 => h9) rfl (by decide +kernel) rfl rfl (Nat.le_of_ble_eq_true rfl) dX6_layOut_127 (fun Hz lz hP hD hSz => ?_)
    have hP : va_P D vwCl (wS cI cZ cJ q0 q1 q2 q3 q4 q5 q6 q7 q8 x_slots x_built false x_folding_on ez19 ez20 a_overlaps ez21 ez22 x_area_length a_area_bytes) Hz := hP
    have hD : va_D Az (wS cI cZ cJ q0 q1 q2 q3 q4 q5 q6 q7 q8 x_slots x_built false x_folding_on ez19 ez20 a_overlaps ez21 ez22 x_area_length a_area_bytes) := hD
    cases hs
    exact k_vret_w hx hb hr hlk (by rw [hw1]; exact hP) hSz dX6_layOut_130 rfl
/-! X6_join -/
set_option maxHeartbeats 4000000 in
set_option maxRecDepth 100000 in
theorem c_X6_join (l : Launch) (D : va_G) (cI cZ cJ : ClassId) {q0 q1 q2 q3 q4 q5 q6 q7 q8 : Nat} {x_slots : Int} {x_built : Int} {b_sw : Bool} {x_folding_on : Int} {a_starts : (Int → Int)} {a_lengths : (Int → Int)} {a_overlaps : (Int → Int)} {x_area_length : Int} {a_area_bytes : (Int → Int)} {x_spare_length : Int} {a_spare_bytes : (Int → Int)} {pz1 : Int} {pz2 : Int} {y_b_sw : Bool} {y_a_starts : (Int → Int)} {y_a_lengths : (Int → Int)} {y_x_area_length : Int} {y_a_area_bytes : (Int → Int)} {y_x_spare_length : Int} {y_a_spare_bytes : (Int → Int)} {sz : Nat} (hs : s_X6_join x_slots b_sw a_starts a_lengths a_overlaps x_area_length a_area_bytes x_spare_length a_spare_bytes pz1 pz2 = some (y_b_sw, y_a_starts, y_a_lengths, y_x_area_length, y_a_area_bytes, y_x_spare_length, y_a_spare_bytes)) : Met l yX6_join wsX6_join rm_X6_join (PW D vwCl [(cI, .int), (cZ, .boolean), (cJ, .long)] [.ref q0, .int (iI pz1), .int (iI pz2)] (wS cI cZ cJ q0 q1 q2 q3 q4 q5 q6 q7 q8 x_slots x_built b_sw x_folding_on a_starts a_lengths a_overlaps x_area_length a_area_bytes x_spare_length a_spare_bytes) sz) (QW D vwCl none (wS cI cZ cJ q0 q1 q2 q3 q4 q5 q6 q7 q8 x_slots x_built y_b_sw x_folding_on y_a_starts y_a_lengths a_overlaps y_x_area_length y_a_area_bytes y_x_spare_length y_a_spare_bytes) (va_A (wS cI cZ cJ q0 q1 q2 q3 q4 q5 q6 q7 q8 x_slots x_built b_sw x_folding_on a_starts a_lengths a_overlaps x_area_length a_area_bytes x_spare_length a_spare_bytes) sz)) 0 0 (va_A (wS cI cZ cJ q0 q1 q2 q3 q4 q5 q6 q7 q8 x_slots x_built b_sw x_folding_on a_starts a_lengths a_overlaps x_area_length a_area_bytes x_spare_length a_spare_bytes) sz) := by
  refine Met.ofW (cc := cX6_join) (maxL := 6) (ret := none) (by decide) rfl ?_
  intro p e s m args below meth c s₁ B hml hv
  obtain ⟨hav, hsz, hP, hK, hD0⟩ := hv
  have hx := B.exec
  have hb := B.bytes
  have hr := B.returns
  have hts := atoms_spec (ws := wsX6_join) B.pre
  have hown : s.vm.findClass RX6 = some m.cls := findClass_of_methodNamed B.named
  have hlk := B.notSynchronized
  have hf22 : (Cond.fieldLink RX6 22 "KeywordMatcher$Superstring" "overlaps" "[I").before args s = true := hts _ (List.mem_of_getElem? (i := 1) rfl)
  have hiX6 : ∀ w ∈ wsX60, w ∈ wsX6_join := fun w h => List.mem_cons_of_mem _ (List.mem_append_left _ (List.mem_append_right _ h))
  have hf15 : (Cond.fieldLink RX6 15 "KeywordMatcher$Superstring" "starts" "[I").before args s = true := hts _ (List.mem_of_getElem? (i := 2) rfl)
  have hf19 : (Cond.fieldLink RX6 19 "KeywordMatcher$Superstring" "lengths" "[I").before args s = true := hts _ (List.mem_of_getElem? (i := 3) rfl)
  subst hsz
  have hD := hD0.self (sz := s.heap.size)
  generalize hAe : va_A (wS cI cZ cJ q0 q1 q2 q3 q4 q5 q6 q7 q8 x_slots x_built b_sw x_folding_on a_starts a_lengths a_overlaps x_area_length a_area_bytes x_spare_length a_spare_bytes) s.heap.size = Az at hD ⊢
  have hA : ∀ q : Nat, s.heap.size ≤ q → Az q := fun q h => by rw [← hAe]; exact Or.inr h
  clear hAe
  have hSz : va_S Az s.heap s.heap [] := va_S.rf
  obtain ⟨wz, hw1⟩ : ∃ z : va_W, z = (wS cI cZ cJ q0 q1 q2 q3 q4 q5 q6 q7 q8 x_slots x_built y_b_sw x_folding_on y_a_starts y_a_lengths a_overlaps y_x_area_length y_a_area_bytes y_x_spare_length y_a_spare_bytes) := ⟨_, rfl⟩
  rw [← hw1]
  have hl := lv_entry ([.ref q0, .int (iI pz1), .int (iI pz2)]) (n := 6) (Nat.le_of_ble_eq_true rfl)
  rw [show entryFrame m args 6 = entryFrame m ([.ref q0, .int (iI pz1), .int (iI pz2)] : List Value).toArray 6 from by rw [hav], lg_entry_eq]
  generalize (lg_sl ([.ref q0, .int (iI pz1), .int (iI pz2)]) ++ List.replicate (6 - (lg_sl ([.ref q0, .int (iI pz1), .int (iI pz2)])).length) Slot.unset).toArray = ls at hl ⊢
  have hl : lv_has ls 6 [(0, .ref q0), (1, .int (iI pz1)), (2, .int (iI pz2))] := hl
  unfold s_X6_join at hs
  refine (?_ : ∀ (Hz : Heap) (lz : List Loc), va_P D vwCl (wS cI cZ cJ q0 q1 q2 q3 q4 q5 q6 q7 q8 x_slots x_built b_sw x_folding_on a_starts a_lengths a_overlaps x_area_length a_area_bytes x_spare_length a_spare_bytes) Hz → va_D Az (wS cI cZ cJ q0 q1 q2 q3 q4 q5 q6 q7 q8 x_slots x_built b_sw x_folding_on a_starts a_lengths a_overlaps x_area_length a_area_bytes x_spare_length a_spare_bytes) → va_S Az s.heap Hz lz → W p l e (headSpec wsX6_join rm_X6_join).room s m args below meth c Hz lz 0 0 (MQ below (QW D vwCl none wz Az) args s 0 0 Az) (F0 m 0 ls [])) s.heap [] hP hD hSz
  intro Hz lz hP hD hSz
  refine lv_aload_n hx hb dX6_join_0 rfl (lv_at hl 0 rfl) ?_
  refine va_get (ci := 6) (v := .ref q4) (C := RX6) (T := TX6) (N := 8) hx hb hts hiX6 hown hK hP 0 rfl rfl 3 (by decide) hf22 (fun _ h9 => h9) rfl dX6_join_1 ?_
  refine lv_iload_n hx hb dX6_join_4 rfl (lv_at hl 1 rfl) ?_
  refine k_bipush (n := 40) hx hb (by decide) dX6_join_5 ?_
  refine k_imul hx hb dX6_join_7 ?_
  refine lv_iload_n hx hb dX6_join_8 rfl (lv_at hl 2 rfl) ?_
  refine k_iadd hx hb dX6_join_9 ?_
  refine k_iald hx hb hK hP 4 0 rfl rfl (Nat.le_of_ble_eq_true rfl) hs dX6_join_10 (fun vz1 hs => ?_)
  refine lv_istore_n (lv' := [(3, .int (iI vz1)), (0, .ref q0), (1, .int (iI pz1)), (2, .int (iI pz2))]) hx hb dX6_join_11 rfl hl (by decide) rfl (fun ls hl => ?_)
  refine lv_aload_n hx hb dX6_join_12 rfl (lv_at hl 1 rfl) ?_
  refine va_get (ci := 6) (v := .ref q2) (C := RX6) (T := TX6) (N := 8) hx hb hts hiX6 hown hK hP 0 rfl rfl 1 (by decide) hf15 (fun _ h9 => h9) rfl dX6_join_13 ?_
  refine lv_iload_n hx hb dX6_join_16 rfl (lv_at hl 3 rfl) ?_
  refine k_iald hx hb hK hP 2 0 rfl rfl (Nat.le_of_ble_eq_true rfl) hs dX6_join_17 (fun vz2 hs => ?_)
  refine lv_iload_n hx hb dX6_join_18 rfl (lv_at hl 0 rfl) ?_
  refine k_iadd hx hb dX6_join_19 ?_
  refine lv_istore (lv' := [(4, .int (iI (vz2 + vz1))), (3, .int (iI vz1)), (0, .ref q0), (1, .int (iI pz1)), (2, .int (iI pz2))]) hx hb dX6_join_20 hl (by decide) rfl (fun ls hl => ?_)
  refine lv_aload_n hx hb dX6_join_22 rfl (lv_at hl 2 rfl) ?_
  refine va_get (ci := 6) (v := .ref q3) (C := RX6) (T := TX6) (N := 8) hx hb hts hiX6 hown hK hP 0 rfl rfl 2 (by decide) hf19 (fun _ h9 => h9) rfl dX6_join_23 ?_
  refine lv_iload_n hx hb dX6_join_26 rfl (lv_at hl 4 rfl) ?_
  refine k_iald hx hb hK hP 3 0 rfl rfl (Nat.le_of_ble_eq_true rfl) hs dX6_join_27 (fun vz3 hs => ?_)
  refine lv_iload_n hx hb dX6_join_28 rfl (lv_at hl 1 rfl) ?_
  refine k_isub hx hb dX6_join_29 ?_
  refine lv_istore (lv' := [(5, .int (iI (vz3 - vz1))), (4, .int (iI (vz2 + vz1))), (3, .int (iI vz1)), (0, .ref q0), (1, .int (iI pz1)), (2, .int (iI pz2))]) hx hb dX6_join_30 hl (by decide) rfl (fun ls hl => ?_)
  refine lv_aload_n hx hb dX6_join_32 rfl (lv_at hl 3 rfl) ?_
  refine va_get (ci := 6) (v := .ref q3) (C := RX6) (T := TX6) (N := 8) hx hb hts hiX6 hown hK hP 0 rfl rfl 2 (by decide) hf19 (fun _ h9 => h9) rfl dX6_join_33 ?_
  refine lv_iload_n hx hb dX6_join_36 rfl (lv_at hl 5 rfl) ?_
  refine k_iconst (n := 0) hx hb dX6_join_37 ?_
  refine k_iast hx hb hK hP hD hSz 3 0 rfl rfl (Nat.le_of_ble_eq_true rfl) hs dX6_join_38 (fun Hz lz hP hD hSz hs => ?_)
  have hP : va_P D vwCl (wS cI cZ cJ q0 q1 q2 q3 q4 q5 q6 q7 q8 x_slots x_built b_sw x_folding_on a_starts (upA a_lengths pz2 0) a_overlaps x_area_length a_area_bytes x_spare_length a_spare_bytes) Hz := hP
  have hD : va_D Az (wS cI cZ cJ q0 q1 q2 q3 q4 q5 q6 q7 q8 x_slots x_built b_sw x_folding_on a_starts (upA a_lengths pz2 0) a_overlaps x_area_length a_area_bytes x_spare_length a_spare_bytes) := hD
  refine lv_aload_n hx hb dX6_join_39 rfl (lv_at hl 3 rfl) ?_
  refine lv_iload_n hx hb dX6_join_40 rfl (lv_at hl 4 rfl) ?_
  refine lv_iload hx hb dX6_join_41 (lv_at hl 1 rfl) ?_
  refine lv_iload hx hb dX6_join_43 (lv_at hl 0 rfl) ?_
  obtain ⟨vz4, vz5, vz6, vz7, vz8, vz9, vz10, hcz, hs⟩ := bd7_some hs
  refine k_wV (As := [.int (iI pz1), .int (iI (vz2 + vz1)), .int (iI (vz3 - vz1))]) (rest := []) (st1 := []) (wc := (wS cI cZ cJ q0 q1 q2 q3 q4 q5 q6 q7 q8 x_slots x_built b_sw x_folding_on a_starts (upA a_lengths pz2 0) a_overlaps x_area_length a_area_bytes x_spare_length a_spare_bytes)) (w1 := (wS cI cZ cJ q0 q1 q2 q3 q4 q5 q6 q7 q8 x_slots x_built vz4 x_folding_on vz5 vz6 a_overlaps vz7 vz8 vz9 vz10)) ⟨hx, hb, hml, hown, hts⟩ hK hP hD hSz hA [0, 1, 2, 3, 4, 5, 6, 7, 8] rfl (by decide) (c_X6_layOut l D cI cZ cJ hcz) (cwV 3 hts gX6_join_X6_layOut rfl rfl rfl (by decide +kernel) ⟨Nat.le_of_ble_eq_true rfl, Nat.le_of_ble_eq_true rfl⟩) 0 rfl rfl rfl rfl rfl hl.1 rfl (lv_room (Nat.le_of_ble_eq_true rfl)) dX6_join_45 ⟨Nat.zero_le _, Nat.zero_le _⟩ rfl (fun Hz lz hP hD hSz => ?_)
  have hP : va_P D vwCl (wS cI cZ cJ q0 q1 q2 q3 q4 q5 q6 q7 q8 x_slots x_built vz4 x_folding_on vz5 vz6 a_overlaps vz7 vz8 vz9 vz10) Hz := hP
  have hD : va_D Az (wS cI cZ cJ q0 q1 q2 q3 q4 q5 q6 q7 q8 x_slots x_built vz4 x_folding_on vz5 vz6 a_overlaps vz7 vz8 vz9 vz10) := hD
  cases hs
  exact k_vret_w hx hb hr hlk (by rw [hw1]; exact hP) hSz dX6_join_48 rfl
