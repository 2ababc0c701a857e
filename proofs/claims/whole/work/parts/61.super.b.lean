/-! X6_build -/
set_option maxHeartbeats 4000000 in
set_option maxRecDepth 100000 in
theorem c_X6_build (l : Launch) (D : va_G) (cI cZ cJ : ClassId) {q0 q1 q2 q3 q4 q5 q6 q7 q8 q9 q10 q11 q12 q13 : Nat} {x_slots : Int} {x_built : Int} {b_sw : Bool} {x_folding_on : Int} {a_starts : (Int → Int)} {a_lengths : (Int → Int)} {a_overlaps : (Int → Int)} {x_area_length : Int} {a_area_bytes : (Int → Int)} {x_spare_length : Int} {a_spare_bytes : (Int → Int)} {x_arg0_given : Int} {x_arg0_alive : Int} {a_arg0_bytes : (Int → Int)} {a_arg0_lengths : (Int → Int)} {a_arg0_weights : (Int → Int)} {a_arg0_lives : (Int → Int)} {y_x_slots : Int} {y_x_built : Int} {y_b_sw : Bool} {y_a_starts : (Int → Int)} {y_a_lengths : (Int → Int)} {y_a_overlaps : (Int → Int)} {y_x_area_length : Int} {y_a_area_bytes : (Int → Int)} {y_x_spare_length : Int} {y_a_spare_bytes : (Int → Int)} {sz : Nat} (hs : s_X6_build x_slots x_built b_sw x_folding_on a_starts a_lengths a_overlaps x_area_length a_area_bytes x_spare_length a_spare_bytes x_arg0_given a_arg0_bytes a_arg0_lengths a_arg0_lives = some (y_x_slots, y_x_built, y_b_sw, y_a_starts, y_a_lengths, y_a_overlaps, y_x_area_length, y_a_area_bytes, y_x_spare_length, y_a_spare_bytes)) : Met l yX6_build wsX6_build rm_X6_build (PW D vwCl [(cI, .int), (cZ, .boolean), (cJ, .long)] [.ref q0, .ref q9] (wSK cI cZ cJ q0 q1 q2 q3 q4 q5 q6 q7 q8 q9 q10 q11 q12 q13 x_slots x_built b_sw x_folding_on a_starts a_lengths a_overlaps x_area_length a_area_bytes x_spare_length a_spare_bytes x_arg0_given x_arg0_alive a_arg0_bytes a_arg0_lengths a_arg0_weights a_arg0_lives) sz) (QW D vwCl none (wSK cI cZ cJ q0 q1 q2 q3 q4 q5 q6 q7 q8 q9 q10 q11 q12 q13 y_x_slots y_x_built y_b_sw x_folding_on y_a_starts y_a_lengths y_a_overlaps y_x_area_length y_a_area_bytes y_x_spare_length y_a_spare_bytes x_arg0_given x_arg0_alive a_arg0_bytes a_arg0_lengths a_arg0_weights a_arg0_lives) (va_A (wSK cI cZ cJ q0 q1 q2 q3 q4 q5 q6 q7 q8 q9 q10 q11 q12 q13 x_slots x_built b_sw x_folding_on a_starts a_lengths a_overlaps x_area_length a_area_bytes x_spare_length a_spare_bytes x_arg0_given x_arg0_alive a_arg0_bytes a_arg0_lengths a_arg0_weights a_arg0_lives) sz)) 0 0 (va_A (wSK cI cZ cJ q0 q1 q2 q3 q4 q5 q6 q7 q8 q9 q10 q11 q12 q13 x_slots x_built b_sw x_folding_on a_starts a_lengths a_overlaps x_area_length a_area_bytes x_spare_length a_spare_bytes x_arg0_given x_arg0_alive a_arg0_bytes a_arg0_lengths a_arg0_weights a_arg0_lives) sz) := by
  refine Met.ofW (cc := cX6_build) (maxL := 4) (ret := none) (by decide) rfl ?_
  intro p e s m args below meth c s₁ B hml hv
  obtain ⟨hav, hsz, hP, hK, hD0⟩ := hv
  have hx := B.exec
  have hb := B.bytes
  have hr := B.returns
  have hts := atoms_spec (ws := wsX6_build) B.pre
  have hown : s.vm.findClass RX6 = some m.cls := findClass_of_methodNamed B.named
  have hlk := B.notSynchronized
  have hf41 : (Cond.fieldLink RX6 41 "KeywordMatcher$Superstring" "built" "Z").before args s = true := hts _ (List.mem_of_getElem? (i := 1) rfl)
  have hiX6 : ∀ w ∈ wsX60, w ∈ wsX6_build := fun w h => List.mem_cons_of_mem _ (List.mem_append_left _ (List.mem_append_left _ (List.mem_append_left _ (List.mem_append_right _ h))))
  have hf37 : (Cond.fieldLink RX6 37 "KeywordMatcher$Superstring" "slots" "I").before args s = true := hts _ (List.mem_of_getElem? (i := 2) rfl)
  subst hsz
  have hD := hD0.self (sz := s.heap.size)
  generalize hAe : va_A (wSK cI cZ cJ q0 q1 q2 q3 q4 q5 q6 q7 q8 q9 q10 q11 q12 q13 x_slots x_built b_sw x_folding_on a_starts a_lengths a_overlaps x_area_length a_area_bytes x_spare_length a_spare_bytes x_arg0_given x_arg0_alive a_arg0_bytes a_arg0_lengths a_arg0_weights a_arg0_lives) s.heap.size = Az at hD ⊢
  have hA : ∀ q : Nat, s.heap.size ≤ q → Az q := fun q h => by rw [← hAe]; exact Or.inr h
  clear hAe
  have hSz : va_S Az s.heap s.heap [] := va_S.rf
  obtain ⟨wz, hw1⟩ : ∃ z : va_W, z = (wSK cI cZ cJ q0 q1 q2 q3 q4 q5 q6 q7 q8 q9 q10 q11 q12 q13 y_x_slots y_x_built y_b_sw x_folding_on y_a_starts y_a_lengths y_a_overlaps y_x_area_length y_a_area_bytes y_x_spare_length y_a_spare_bytes x_arg0_given x_arg0_alive a_arg0_bytes a_arg0_lengths a_arg0_weights a_arg0_lives) := ⟨_, rfl⟩
  rw [← hw1]
  have hl := lv_entry ([.ref q0, .ref q9]) (n := 4) (Nat.le_of_ble_eq_true rfl)
  rw [show entryFrame m args 4 = entryFrame m ([.ref q0, .ref q9] : List Value).toArray 4 from by rw [hav], lg_entry_eq]
  generalize (lg_sl ([.ref q0, .ref q9]) ++ List.replicate (4 - (lg_sl ([.ref q0, .ref q9])).length) Slot.unset).toArray = ls at hl ⊢
  have hl : lv_has ls 4 [(0, .ref q0), (1, .ref q9)] := hl
  unfold s_X6_build at hs
  have Lz15 : ∀ (fu : Nat) (x_slots : Int) (x_built : Int) (b_sw : Bool) (a_starts : (Int → Int)) (a_lengths : (Int → Int)) (a_overlaps : (Int → Int)) (x_area_length : Int) (a_area_bytes : (Int → Int)) (x_spare_length : Int) (a_spare_bytes : (Int → Int)) (l2 : Int) (y0 : (Int → Int)), s_X6_build_15 fu x_slots x_folding_on a_starts a_lengths a_overlaps a_area_bytes l2 = some y0 → ∀ (Hz : Heap) (lz : List Loc), va_P D vwCl (wSK cI cZ cJ q0 q1 q2 q3 q4 q5 q6 q7 q8 q9 q10 q11 q12 q13 x_slots x_built b_sw x_folding_on a_starts a_lengths a_overlaps x_area_length a_area_bytes x_spare_length a_spare_bytes x_arg0_given x_arg0_alive a_arg0_bytes a_arg0_lengths a_arg0_weights a_arg0_lives) Hz → va_D Az (wSK cI cZ cJ q0 q1 q2 q3 q4 q5 q6 q7 q8 q9 q10 q11 q12 q13 x_slots x_built b_sw x_folding_on a_starts a_lengths a_overlaps x_area_length a_area_bytes x_spare_length a_spare_bytes x_arg0_given x_arg0_alive a_arg0_bytes a_arg0_lengths a_arg0_weights a_arg0_lives) → va_S Az s.heap Hz lz → ∀ ls : Array Slot, lv_has ls 4 [(0, .ref q0), (2, .int (iI l2))] → (∀ (Hz : Heap) (lz : List Loc), va_P D vwCl (wSK cI cZ cJ q0 q1 q2 q3 q4 q5 q6 q7 q8 q9 q10 q11 q12 q13 x_slots x_built b_sw x_folding_on a_starts a_lengths y0 x_area_length a_area_bytes x_spare_length a_spare_bytes x_arg0_given x_arg0_alive a_arg0_bytes a_arg0_lengths a_arg0_weights a_arg0_lives) Hz → va_D Az (wSK cI cZ cJ q0 q1 q2 q3 q4 q5 q6 q7 q8 q9 q10 q11 q12 q13 x_slots x_built b_sw x_folding_on a_starts a_lengths y0 x_area_length a_area_bytes x_spare_length a_spare_bytes x_arg0_given x_arg0_alive a_arg0_bytes a_arg0_lengths a_arg0_weights a_arg0_lives) → va_S Az s.heap Hz lz → ∀ ls : Array Slot, lv_has ls 4 [(0, .ref q0)] → W p l e (headSpec wsX6_build rm_X6_build).room s m args below meth c Hz lz 0 0 (MQ below (QW D vwCl none wz Az) args s 0 0 Az) (F0 m 35 ls [])) → W p l e (headSpec wsX6_build rm_X6_build).room s m args below meth c Hz lz 0 0 (MQ below (QW D vwCl none wz Az) args s 0 0 Az) (F0 m 15 ls []) := by
    intro fu
    induction fu with
    | zero => intro x_slots x_built b_sw a_starts a_lengths a_overlaps x_area_length a_area_bytes x_spare_length a_spare_bytes l2 y0 hs; cases hs
    | succ fu ih =>
      intro x_slots x_built b_sw a_starts a_lengths a_overlaps x_area_length a_area_bytes x_spare_length a_spare_bytes l2 y0 hs Hz lz hP hD hSz ls hl kx
      rw [s_X6_build_15_s] at hs
      refine lv_iload_n hx hb dX6_build_15 rfl (lv_at hl 1 rfl) ?_
      refine lv_aload_n hx hb dX6_build_16 rfl (lv_at hl 0 rfl) ?_
      refine va_get (ci := 6) (v := .int (iI x_slots)) (C := RX6) (T := TX6) (N := 8) hx hb hts hiX6 hown hK hP 0 rfl rfl 6 (by decide) hf37 (fun _ h9 => h9) rfl dX6_build_17 ?_
      refine k_icmp_ge (tgt := 35) hx hb hs dX6_build_20 (by decide) (fun hs => ?_) (fun hs => ?_)
      · refine lv_aload_n hx hb dX6_build_23 rfl (lv_at hl 0 rfl) ?_
        refine lv_iload_n hx hb dX6_build_24 rfl (lv_at hl 1 rfl) ?_
        refine lv_iload_n hx hb dX6_build_25 rfl (lv_at hl 1 rfl) ?_
        obtain ⟨vz6, hcz, hs⟩ := bd1_some hs
        refine k_wV (As := [.int (iI l2), .int (iI l2)]) (rest := []) (st1 := []) (wc := (wS cI cZ cJ q0 q1 q2 q3 q4 q5 q6 q7 q8 x_slots x_built b_sw x_folding_on a_starts a_lengths a_overlaps x_area_length a_area_bytes x_spare_length a_spare_bytes)) (w1 := (wS cI cZ cJ q0 q1 q2 q3 q4 q5 q6 q7 q8 x_slots x_built b_sw x_folding_on a_starts a_lengths vz6 x_area_length a_area_bytes x_spare_length a_spare_bytes)) ⟨hx, hb, hml, hown, hts⟩ hK hP hD hSz hA [0, 1, 2, 3, 4, 5, 6, 7, 8] rfl (by decide) (c_X6_measureOverlaps l D cI cZ cJ hcz) (cwV 2 hts gX6_build_X6_measureOverlaps rfl rfl rfl (by decide +kernel) ⟨Nat.le_of_ble_eq_true rfl, Nat.le_of_ble_eq_true rfl⟩) 0 rfl rfl rfl rfl rfl hl.1 rfl (lv_room (Nat.le_of_ble_eq_true rfl)) dX6_build_26 ⟨Nat.zero_le _, Nat.zero_le _⟩ rfl (fun Hz lz hP hD hSz => ?_)
        have hP : va_P D vwCl (wSK cI cZ cJ q0 q1 q2 q3 q4 q5 q6 q7 q8 q9 q10 q11 q12 q13 x_slots x_built b_sw x_folding_on a_starts a_lengths vz6 x_area_length a_area_bytes x_spare_length a_spare_bytes x_arg0_given x_arg0_alive a_arg0_bytes a_arg0_lengths a_arg0_weights a_arg0_lives) Hz := hP
        have hD : va_D Az (wSK cI cZ cJ q0 q1 q2 q3 q4 q5 q6 q7 q8 q9 q10 q11 q12 q13 x_slots x_built b_sw x_folding_on a_starts a_lengths vz6 x_area_length a_area_bytes x_spare_length a_spare_bytes x_arg0_given x_arg0_alive a_arg0_bytes a_arg0_lengths a_arg0_weights a_arg0_lives) := hD
        refine k_iinc (x := l2) (k := 1) (lv' := [(2, .int (iI (l2 + 1))), (0, .ref q0)]) hx hb dX6_build_29 hl rfl (by decide) rfl (fun ls hl => ?_)
        refine lv_goto (tgt := 15) hx hb dX6_build_32 (by decide) ?_
        exact ih x_slots x_built b_sw a_starts a_lengths vz6 x_area_length a_area_bytes x_spare_length a_spare_bytes (l2 + 1) y0 hs Hz lz hP hD hSz ls (lv_sub hl [1, 0] rfl) kx
      · cases hs
        exact kx Hz lz hP hD hSz ls (lv_sub hl [0] rfl)
  have Lz37 : ∀ (fu : Nat) (x_slots : Int) (x_built : Int) (b_sw : Bool) (a_starts : (Int → Int)) (a_lengths : (Int → Int)) (a_overlaps : (Int → Int)) (x_area_length : Int) (a_area_bytes : (Int → Int)) (x_spare_length : Int) (a_spare_bytes : (Int → Int)) (l2 : Int) (y0 : Bool) (y1 : (Int → Int)) (y2 : (Int → Int)) (y3 : (Int → Int)) (y4 : Int) (y5 : (Int → Int)) (y6 : Int) (y7 : (Int → Int)), s_X6_build_37 fu x_slots b_sw x_folding_on a_starts a_lengths a_overlaps x_area_length a_area_bytes x_spare_length a_spare_bytes l2 = some (y0, y1, y2, y3, y4, y5, y6, y7) → ∀ (Hz : Heap) (lz : List Loc), va_P D vwCl (wSK cI cZ cJ q0 q1 q2 q3 q4 q5 q6 q7 q8 q9 q10 q11 q12 q13 x_slots x_built b_sw x_folding_on a_starts a_lengths a_overlaps x_area_length a_area_bytes x_spare_length a_spare_bytes x_arg0_given x_arg0_alive a_arg0_bytes a_arg0_lengths a_arg0_weights a_arg0_lives) Hz → va_D Az (wSK cI cZ cJ q0 q1 q2 q3 q4 q5 q6 q7 q8 q9 q10 q11 q12 q13 x_slots x_built b_sw x_folding_on a_starts a_lengths a_overlaps x_area_length a_area_bytes x_spare_length a_spare_bytes x_arg0_given x_arg0_alive a_arg0_bytes a_arg0_lengths a_arg0_weights a_arg0_lives) → va_S Az s.heap Hz lz → ∀ ls : Array Slot, lv_has ls 4 [(0, .ref q0), (2, .int (iI l2))] → (∀ (Hz : Heap) (lz : List Loc), va_P D vwCl (wSK cI cZ cJ q0 q1 q2 q3 q4 q5 q6 q7 q8 q9 q10 q11 q12 q13 x_slots x_built y0 x_folding_on y1 y2 y3 y4 y5 y6 y7 x_arg0_given x_arg0_alive a_arg0_bytes a_arg0_lengths a_arg0_weights a_arg0_lives) Hz → va_D Az (wSK cI cZ cJ q0 q1 q2 q3 q4 q5 q6 q7 q8 q9 q10 q11 q12 q13 x_slots x_built y0 x_folding_on y1 y2 y3 y4 y5 y6 y7 x_arg0_given x_arg0_alive a_arg0_bytes a_arg0_lengths a_arg0_weights a_arg0_lives) → va_S Az s.heap Hz lz → ∀ ls : Array Slot, lv_has ls 4 [(0, .ref q0)] → W p l e (headSpec wsX6_build rm_X6_build).room s m args below meth c Hz lz 0 0 (MQ below (QW D vwCl none wz Az) args s 0 0 Az) (F0 m 85 ls [])) → W p l e (headSpec wsX6_build rm_X6_build).room s m args below meth c Hz lz 0 0 (MQ below (QW D vwCl none wz Az) args s 0 0 Az) (F0 m 37 ls []) := by
    intro fu
    induction fu with
    | zero => intro x_slots x_built b_sw a_starts a_lengths a_overlaps x_area_length a_area_bytes x_spare_length a_spare_bytes l2 y0 y1 y2 y3 y4 y5 y6 y7 hs; cases hs
    | succ fu ih =>
      intro x_slots x_built b_sw a_starts a_lengths a_overlaps x_area_length a_area_bytes x_spare_length a_spare_bytes l2 y0 y1 y2 y3 y4 y5 y6 y7 hs Hz lz hP hD hSz ls hl kx
      rw [s_X6_build_37_s] at hs
      refine lv_iload_n hx hb dX6_build_37 rfl (lv_at hl 1 rfl) ?_
      refine lv_aload_n hx hb dX6_build_38 rfl (lv_at hl 0 rfl) ?_
      refine va_get (ci := 6) (v := .int (iI x_slots)) (C := RX6) (T := TX6) (N := 8) hx hb hts hiX6 hown hK hP 0 rfl rfl 6 (by decide) hf37 (fun _ h9 => h9) rfl dX6_build_39 ?_
      refine k_icmp_ge (tgt := 85) hx hb hs dX6_build_42 (by decide) (fun hs => ?_) (fun hs => ?_)
      · refine lv_aload_n hx hb dX6_build_45 rfl (lv_at hl 0 rfl) ?_
        obtain ⟨vz8, hcz, hs⟩ := bd1_some hs
        have hPc : va_P D vwCl (wS cI cZ cJ q0 q1 q2 q3 q4 q5 q6 q7 q8 x_slots x_built b_sw x_folding_on a_starts a_lengths a_overlaps x_area_length a_area_bytes x_spare_length a_spare_bytes) Hz := hP.sub [0, 1, 2, 3, 4, 5, 6, 7, 8] rfl
        refine k_rV (As := []) (rest := []) (st1 := [.int (iI vz8)]) ⟨hx, hb, hml, hown, hts⟩ hK hPc (c_X6_widestPair l D cI cZ cJ hcz) (cwV 0 hts gX6_build_X6_widestPair rfl rfl rfl (by decide +kernel) ⟨Nat.le_of_ble_eq_true rfl, Nat.le_of_ble_eq_true rfl⟩) 0 rfl rfl rfl rfl hl.1 rfl (lv_room (Nat.le_of_ble_eq_true rfl)) dX6_build_46 ⟨Nat.zero_le _, Nat.zero_le _⟩ rfl ?_
        refine lv_istore_n (lv' := [(3, .int (iI vz8)), (0, .ref q0), (2, .int (iI l2))]) hx hb dX6_build_49 rfl hl (by decide) rfl (fun ls hl => ?_)
        refine lv_iload_n hx hb dX6_build_50 rfl (lv_at hl 0 rfl) ?_
        refine k_iconst (n := (-1)) hx hb dX6_build_51 ?_
        refine k_icmp_eq (tgt := 79) hx hb hs dX6_build_52 (by decide) (fun hs => ?_) (fun hs => ?_)
        · refine k_iinc (x := l2) (k := 2) (lv' := [(2, .int (iI (l2 + 1))), (3, .int (iI vz8)), (0, .ref q0)]) hx hb dX6_build_79 hl rfl (by decide) rfl (fun ls hl => ?_)
          refine lv_goto (tgt := 37) hx hb dX6_build_82 (by decide) ?_
          exact ih x_slots x_built b_sw a_starts a_lengths a_overlaps x_area_length a_area_bytes x_spare_length a_spare_bytes (l2 + 1) y0 y1 y2 y3 y4 y5 y6 y7 hs Hz lz hP hD hSz ls (lv_sub hl [2, 0] rfl) kx
        · refine lv_aload_n hx hb dX6_build_55 rfl (lv_at hl 1 rfl) ?_
          refine lv_iload_n hx hb dX6_build_56 rfl (lv_at hl 0 rfl) ?_
          refine k_bipush (n := 40) hx hb (by decide) dX6_build_57 ?_
          refine k_idiv hx hb dX6_build_59 (by decide) ?_
          refine lv_iload_n hx hb dX6_build_60 rfl (lv_at hl 0 rfl) ?_
          refine k_bipush (n := 40) hx hb (by decide) dX6_build_61 ?_
          refine k_irem hx hb dX6_build_63 (by decide) ?_
          obtain ⟨vz9, vz10, vz11, vz12, vz13, vz14, vz15, hcz, hs⟩ := bd7_some hs
          refine k_wV (As := [.int (iI (iDiv vz8 40)), .int (iI (iRem vz8 40))]) (rest := []) (st1 := []) (wc := (wS cI cZ cJ q0 q1 q2 q3 q4 q5 q6 q7 q8 x_slots x_built b_sw x_folding_on a_starts a_lengths a_overlaps x_area_length a_area_bytes x_spare_length a_spare_bytes)) (w1 := (wS cI cZ cJ q0 q1 q2 q3 q4 q5 q6 q7 q8 x_slots x_built vz9 x_folding_on vz10 vz11 a_overlaps vz12 vz13 vz14 vz15)) ⟨hx, hb, hml, hown, hts⟩ hK hP hD hSz hA [0, 1, 2, 3, 4, 5, 6, 7, 8] rfl (by decide) (c_X6_join l D cI cZ cJ hcz) (cwV 2 hts gX6_build_X6_join rfl rfl rfl (by decide +kernel) ⟨Nat.le_of_ble_eq_true rfl, Nat.le_of_ble_eq_true rfl⟩) 0 rfl rfl rfl rfl rfl hl.1 rfl (lv_room (Nat.le_of_ble_eq_true rfl)) dX6_build_64 ⟨Nat.zero_le _, Nat.zero_le _⟩ rfl (fun Hz lz hP hD hSz => ?_)
          have hP : va_P D vwCl (wSK cI cZ cJ q0 q1 q2 q3 q4 q5 q6 q7 q8 q9 q10 q11 q12 q13 x_slots x_built vz9 x_folding_on vz10 vz11 a_overlaps vz12 vz13 vz14 vz15 x_arg0_given x_arg0_alive a_arg0_bytes a_arg0_lengths a_arg0_weights a_arg0_lives) Hz := hP
          have hD : va_D Az (wSK cI cZ cJ q0 q1 q2 q3 q4 q5 q6 q7 q8 q9 q10 q11 q12 q13 x_slots x_built vz9 x_folding_on vz10 vz11 a_overlaps vz12 vz13 vz14 vz15 x_arg0_given x_arg0_alive a_arg0_bytes a_arg0_lengths a_arg0_weights a_arg0_lives) := hD
          refine lv_aload_n hx hb dX6_build_67 rfl (lv_at hl 1 rfl) ?_
          refine lv_iload_n hx hb dX6_build_68 rfl (lv_at hl 0 rfl) ?_
          refine k_bipush (n := 40) hx hb (by decide) dX6_build_69 ?_
          refine k_idiv hx hb dX6_build_71 (by decide) ?_
          refine lv_aload_n hx hb dX6_build_72 rfl (lv_at hl 1 rfl) ?_
          refine va_get (ci := 6) (v := .int (iI x_slots)) (C := RX6) (T := TX6) (N := 8) hx hb hts hiX6 hown hK hP 0 rfl rfl 6 (by decide) hf37 (fun _ h9 => h9) rfl dX6_build_73 ?_
          obtain ⟨vz16, hcz, hs⟩ := bd1_some hs
          refine k_wV (As := [.int (iI (iDiv vz8 40)), .int (iI x_slots)]) (rest := []) (st1 := []) (wc := (wS cI cZ cJ q0 q1 q2 q3 q4 q5 q6 q7 q8 x_slots x_built vz9 x_folding_on vz10 vz11 a_overlaps vz12 vz13 vz14 vz15)) (w1 := (wS cI cZ cJ q0 q1 q2 q3 q4 q5 q6 q7 q8 x_slots x_built vz9 x_folding_on vz10 vz11 vz16 vz12 vz13 vz14 vz15)) ⟨hx, hb, hml, hown, hts⟩ hK hP hD hSz hA [0, 1, 2, 3, 4, 5, 6, 7, 8] rfl (by decide) (c_X6_measureOverlaps l D cI cZ cJ hcz) (cwV 2 hts gX6_build_X6_measureOverlaps rfl rfl rfl (by decide +kernel) ⟨Nat.le_of_ble_eq_true rfl, Nat.le_of_ble_eq_true rfl⟩) 0 rfl rfl rfl rfl rfl hl.1 rfl (lv_room (Nat.le_of_ble_eq_true rfl)) dX6_build_76 ⟨Nat.zero_le _, Nat.zero_le _⟩ rfl (fun Hz lz hP hD hSz => ?_)
          have hP : va_P D vwCl (wSK cI cZ cJ q0 q1 q2 q3 q4 q5 q6 q7 q8 q9 q10 q11 q12 q13 x_slots x_built vz9 x_folding_on vz10 vz11 vz16 vz12 vz13 vz14 vz15 x_arg0_given x_arg0_alive a_arg0_bytes a_arg0_lengths a_arg0_weights a_arg0_lives) Hz := hP
          have hD : va_D Az (wSK cI cZ cJ q0 q1 q2 q3 q4 q5 q6 q7 q8 q9 q10 q11 q12 q13 x_slots x_built vz9 x_folding_on vz10 vz11 vz16 vz12 vz13 vz14 vz15 x_arg0_given x_arg0_alive a_arg0_bytes a_arg0_lengths a_arg0_weights a_arg0_lives) := hD
          refine k_iinc (x := l2) (k := 2) (lv' := [(2, .int (iI (l2 + 1))), (3, .int (iI vz8)), (0, .ref q0)]) hx hb dX6_build_79 hl rfl (by decide) rfl (fun ls hl => ?_)
          refine lv_goto (tgt := 37) hx hb dX6_build_82 (by decide) ?_
          exact ih x_slots x_built vz9 vz10 vz11 vz16 vz12 vz13 vz14 vz15 (l2 + 1) y0 y1 y2 y3 y4 y5 y6 y7 hs Hz lz hP hD hSz ls (lv_sub hl [2, 0] rfl) kx
      · cases hs
        exact kx Hz lz hP hD hSz ls (lv_sub hl [0] rfl)
  refine (?_ : ∀ (Hz : Heap) (lz : List Loc), va_P D vwCl (wSK cI cZ cJ q0 q1 q2 q3 q4 q5 q6 q7 q8 q9 q10 q11 q12 q13 x_slots x_built b_sw x_folding_on a_starts a_lengths a_overlaps x_area_length a_area_bytes x_spare_length a_spare_bytes x_arg0_given x_arg0_alive a_arg0_bytes a_arg0_lengths a_arg0_weights a_arg0_lives) Hz → va_D Az (wSK cI cZ cJ q0 q1 q2 q3 q4 q5 q6 q7 q8 q9 q10 q11 q12 q13 x_slots x_built b_sw x_folding_on a_starts a_lengths a_overlaps x_area_length a_area_bytes x_spare_length a_spare_bytes x_arg0_given x_arg0_alive a_arg0_bytes a_arg0_lengths a_arg0_weights a_arg0_lives) → va_S Az s.heap Hz lz → W p l e (headSpec wsX6_build rm_X6_build).room s m args below meth c Hz lz 0 0 (MQ below (QW D vwCl none wz Az) args s 0 0 Az) (F0 m 0 ls [])) s.heap [] hP hD hSz
  intro Hz lz hP hD hSz
  refine lv_aload_n hx hb dX6_build_0 rfl (lv_at hl 0 rfl) ?_
  refine va_get (ci := 6) (v := .int (iI x_built)) (C := RX6) (T := TX6) (N := 8) hx hb hts hiX6 hown hK hP 0 rfl rfl 7 (by decide) hf41 (fun _ h9 => h9) rfl dX6_build_1 ?_
  refine k_if_eq (tgt := 8) hx hb hs dX6_build_4 (by decide) (fun hs => ?_) (fun hs => ?_)
  · refine lv_aload_n hx hb dX6_build_8 rfl (lv_at hl 0 rfl) ?_
    refine lv_aload_n hx hb dX6_build_9 rfl (lv_at hl 1 rfl) ?_
    obtain ⟨vz1, vz2, vz3, vz4, vz5, hcz, hs⟩ := bd5_some hs
    refine k_wV (As := [.ref q9]) (rest := []) (st1 := []) (wc := (wSK cI cZ cJ q0 q1 q2 q3 q4 q5 q6 q7 q8 q9 q10 q11 q12 q13 x_slots x_built b_sw x_folding_on a_starts a_lengths a_overlaps x_area_length a_area_bytes x_spare_length a_spare_bytes x_arg0_given x_arg0_alive a_arg0_bytes a_arg0_lengths a_arg0_weights a_arg0_lives)) (w1 := (wSK cI cZ cJ q0 q1 q2 q3 q4 q5 q6 q7 q8 q9 q10 q11 q12 q13 vz1 x_built b_sw x_folding_on vz2 vz3 a_overlaps vz4 vz5 x_spare_length a_spare_bytes x_arg0_given x_arg0_alive a_arg0_bytes a_arg0_lengths a_arg0_weights a_arg0_lives)) ⟨hx, hb, hml, hown, hts⟩ hK hP hD hSz hA [0, 1, 2, 3, 4, 5, 6, 7, 8, 9, 10, 11, 12, 13] rfl (by decide) (c_X6_collect l D cI cZ cJ hcz) (cwV 1 hts gX6_build_X6_collect rfl rfl rfl (by decide +kernel) ⟨Nat.le_of_ble_eq_true rfl, Nat.le_of_ble_eq_true rfl⟩) 0 rfl rfl rfl rfl rfl hl.1 rfl (lv_room (Nat.le_of_ble_eq_true rfl)) dX6_build_10 ⟨Nat.zero_le _, Nat.zero_le _⟩ rfl (fun Hz lz hP hD hSz => ?_)
    have hP : va_P D vwCl (wSK cI cZ cJ q0 q1 q2 q3 q4 q5 q6 q7 q8 q9 q10 q11 q12 q13 vz1 x_built b_sw x_folding_on vz2 vz3 a_overlaps vz4 vz5 x_spare_length a_spare_bytes x_arg0_given x_arg0_alive a_arg0_bytes a_arg0_lengths a_arg0_weights a_arg0_lives) Hz := hP
    have hD : va_D Az (wSK cI cZ cJ q0 q1 q2 q3 q4 q5 q6 q7 q8 q9 q10 q11 q12 q13 vz1 x_built b_sw x_folding_on vz2 vz3 a_overlaps vz4 vz5 x_spare_length a_spare_bytes x_arg0_given x_arg0_alive a_arg0_bytes a_arg0_lengths a_arg0_weights a_arg0_lives) := hD
    refine k_iconst (n := 0) hx hb dX6_build_13 ?_
    refine lv_istore_n (lv' := [(2, .int (iI 0)), (0, .ref q0), (1, .ref q9)]) hx hb dX6_build_14 rfl hl (by decide) rfl (fun ls hl => ?_)
    obtain ⟨ez7, hq, hs⟩ := bd1_some hs
    refine Lz15 FU vz1 x_built b_sw vz2 vz3 a_overlaps vz4 vz5 x_spare_length a_spare_bytes 0 ez7 hq Hz lz hP hD hSz ls (lv_sub hl [1, 0] rfl) ?_
    intro Hz lz hP hD hSz ls hl
    refine k_iconst (n := 1) hx hb dX6_build_35 ?_
    refine lv_istore_n (lv' := [(2, .int (iI 1)), (0, .ref q0)]) hx hb dX6_build_36 rfl hl (by decide) rfl (fun ls hl => ?_)
    obtain ⟨ez17, ez18, ez19, ez20, ez21, ez22, ez23, ez24, hq, hs⟩ := bd8_some hs
    refine Lz37 FU vz1 x_built b_sw vz2 vz3 ez7 vz4 vz5 x_spare_length a_spare_bytes 1 ez17 ez18 ez19 ez20 ez21 ez22 ez23 ez24 hq Hz lz hP hD hSz ls (lv_sub hl [1, 0] rfl) ?_
    intro Hz lz hP hD hSz ls hl
    refine lv_aload_n hx hb dX6_build_85 rfl (lv_at hl 0 rfl) ?_
    refine k_iconst (n := 1) hx hb dX6_build_86 ?_
    refine va_put (ci := 6) (v := .int (iI 1)) (ty := .boolean) (C := RX6) (T := TX6) (N := 8) hx hb hts hiX6 tyX6 tyX6_ok nmX6 hown hK hP hD hSz 0 rfl rfl 7 (by decide) hf41 (fun _ h9 => h9) rfl (by decide +kernel) (narZ (by decide)) rfl (Nat.le_of_ble_eq_true rfl) dX6_build_87 (fun Hz lz hP hD hSz => ?_)
    have hP : va_P D vwCl (wSK cI cZ cJ q0 q1 q2 q3 q4 q5 q6 q7 q8 q9 q10 q11 q12 q13 vz1 1 ez17 x_folding_on ez18 ez19 ez20 ez21 ez22 ez23 ez24 x_arg0_given x_arg0_alive a_arg0_bytes a_arg0_lengths a_arg0_weights a_arg0_lives) Hz := hP
    have hD : va_D Az (wSK cI cZ cJ q0 q1 q2 q3 q4 q5 q6 q7 q8 q9 q10 q11 q12 q13 vz1 1 ez17 x_folding_on ez18 ez19 ez20 ez21 ez22 ez23 ez24 x_arg0_given x_arg0_alive a_arg0_bytes a_arg0_lengths a_arg0_weights a_arg0_lives) := hD
    cases hs
    exact k_vret_w hx hb hr hlk (by rw [hw1]; exact hP) hSz dX6_build_90 rfl
  · cases hs
    exact k_vret_w hx hb hr hlk (by rw [hw1]; exact hP) hSz dX6_build_7 rfl
