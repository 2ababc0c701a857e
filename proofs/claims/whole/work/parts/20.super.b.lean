/-! X6_layOut -/
noncomputable def s_X6_layOut_10 (fu : Nat) : Int → (Int → Int) → (Int → Int) → (Int → Int) → Int → (Int → Int) → Int → Int → Int → Int → Option ((Int → Int) × (Int → Int) × Int × (Int → Int)) := Nat.rec (motive := fun _ => Int → (Int → Int) → (Int → Int) → (Int → Int) → Int → (Int → Int) → Int → Int → Int → Int → Option ((Int → Int) × (Int → Int) × Int × (Int → Int))) (fun _ _ _ _ _ _ _ _ _ _ => none) (fun _ ih x_slots a_starts a_lengths a_area_bytes x_spare_length a_spare_bytes l1 l2 l3 l4 => cLt l4 x_slots ((rdA a_starts 40 l4).bind (fun vz2 => (rdA a_lengths 40 l4).bind (fun vz3 => bd2 (s_X1_appendRun 640 640 x_spare_length a_spare_bytes a_area_bytes vz2 vz3) (fun vz4 vz5 => cEq l4 l1 (bd2 (s_X1_appendRun 640 640 vz4 vz5 a_area_bytes l2 l3) (fun vz6 vz7 => cN 40 l4 (cN 40 l4 (ih x_slots (upA a_starts l4 x_spare_length) (upA a_lengths l4 (vz6 - x_spare_length)) a_area_bytes vz6 vz7 l1 l2 l3 (l4 + 1))))) (cN 40 l4 (cN 40 l4 (ih x_slots (upA a_starts l4 x_spare_length) (upA a_lengths l4 (vz4 - x_spare_length)) a_area_bytes vz4 vz5 l1 l2 l3 (l4 + 1)))))))) (some (a_starts, a_lengths, x_spare_length, a_spare_bytes))) fu
theorem s_X6_layOut_10_s (fu : Nat) (x_slots : Int) (a_starts : (Int → Int)) (a_lengths : (Int → Int)) (a_area_bytes : (Int → Int)) (x_spare_length : Int) (a_spare_bytes : (Int → Int)) (l1 : Int) (l2 : Int) (l3 : Int) (l4 : Int) : s_X6_layOut_10 (fu + 1) x_slots a_starts a_lengths a_area_bytes x_spare_length a_spare_bytes l1 l2 l3 l4 = (cLt l4 x_slots ((rdA a_starts 40 l4).bind (fun vz2 => (rdA a_lengths 40 l4).bind (fun vz3 => bd2 (s_X1_appendRun 640 640 x_spare_length a_spare_bytes a_area_bytes vz2 vz3) (fun vz4 vz5 => cEq l4 l1 (bd2 (s_X1_appendRun 640 640 vz4 vz5 a_area_bytes l2 l3) (fun vz6 vz7 => cN 40 l4 (cN 40 l4 (s_X6_layOut_10 fu x_slots (upA a_starts l4 x_spare_length) (upA a_lengths l4 (vz6 - x_spare_length)) a_area_bytes vz6 vz7 l1 l2 l3 (l4 + 1))))) (cN 40 l4 (cN 40 l4 (s_X6_layOut_10 fu x_slots (upA a_starts l4 x_spare_length) (upA a_lengths l4 (vz4 - x_spare_length)) a_area_bytes vz4 vz5 l1 l2 l3 (l4 + 1)))))))) (some (a_starts, a_lengths, x_spare_length, a_spare_bytes))) := rfl
theorem s_X6_layOut_10_z (x_slots : Int) (a_starts : (Int → Int)) (a_lengths : (Int → Int)) (a_area_bytes : (Int → Int)) (x_spare_length : Int) (a_spare_bytes : (Int → Int)) (l1 : Int) (l2 : Int) (l3 : Int) (l4 : Int) : s_X6_layOut_10 0 x_slots a_starts a_lengths a_area_bytes x_spare_length a_spare_bytes l1 l2 l3 l4 = none := rfl
noncomputable def s_X6_layOut (x_slots : Int) (b_sw : Bool) (a_starts : (Int → Int)) (a_lengths : (Int → Int)) (x_area_length : Int) (a_area_bytes : (Int → Int)) (x_spare_length : Int) (a_spare_bytes : (Int → Int)) (pz1 : Int) (pz2 : Int) (pz3 : Int) : Option (Bool × (Int → Int) × (Int → Int) × Int × (Int → Int) × Int × (Int → Int)) := bd1 (s_X1_clear 640 x_spare_length) (fun vz1 => bd4 (s_X6_layOut_10 FU x_slots a_starts a_lengths a_area_bytes vz1 a_spare_bytes pz1 pz2 pz3 0) (fun ez14 ez15 ez16 ez17 => some ((!b_sw), ez14, ez15, ez16, ez17, x_area_length, a_area_bytes)))
def rm_X6_layOut : Room := { frames := 2, cells := 0, slots := 0, locals := 63 }
set_option maxHeartbeats 4000000 in
set_option maxRecDepth 100000 in
theorem c_X6_layOut (l : Launch) (D : va_G) (cI cZ cJ : ClassId) {q0 q1 q2 q3 q4 q5 q6 q7 q8 : Nat} {x_slots : Int} {x_built : Int} {b_sw : Bool} {x_folding_on : Int} {a_starts : (Int → Int)} {a_lengths : (Int → Int)} {a_overlaps : (Int → Int)} {x_area_length : Int} {a_area_bytes : (Int → Int)} {x_spare_length : Int} {a_spare_bytes : (Int → Int)} {pz1 : Int} {pz2 : Int} {pz3 : Int} {y_b_sw : Bool} {y_a_starts : (Int → Int)} {y_a_lengths : (Int → Int)} {y_x_area_length : Int} {y_a_area_bytes : (Int → Int)} {y_x_spare_length : Int} {y_a_spare_bytes : (Int → Int)} {sz : Nat} (hs : s_X6_layOut x_slots b_sw a_starts a_lengths x_area_length a_area_bytes x_spare_length a_spare_bytes pz1 pz2 pz3 = some (y_b_sw, y_a_starts, y_a_lengths, y_x_area_length, y_a_area_bytes, y_x_spare_length, y_a_spare_bytes)) : Met l yX6_layOut wsX6_layOut rm_X6_layOut (PW D vwCl [(cI, .int), (cZ, .boolean), (cJ, .long)] [.ref q0, .int (iI pz1), .int (iI pz2), .int (iI pz3)] (wS cI cZ cJ q0 q1 q2 q3 q4 q5 q6 q7 q8 x_slots x_built b_sw x_folding_on a_starts a_lengths a_overlaps x_area_length a_area_bytes x_spare_length a_spare_bytes) sz) (QW D vwCl none (wS cI cZ cJ q0 q1 q2 q3 q4 q5 q6 q7 q8 x_slots x_built y_b_sw x_folding_on y_a_starts y_a_lengths a_overlaps y_x_area_length y_a_area_bytes y_x_spare_length y_a_spare_bytes) (va_A (wS cI cZ cJ q0 q1 q2 q3 q4 q5 q6 q7 q8 x_slots x_built b_sw x_folding_on a_starts a_lengths a_overlaps x_area_length a_area_bytes x_spare_length a_spare_bytes) sz)) 0 0 (va_A (wS cI cZ cJ q0 q1 q2 q3 q4 q5 q6 q7 q8 x_slots x_built b_sw x_folding_on a_starts a_lengths a_overlaps x_area_length a_area_bytes x_spare_length a_spare_bytes) sz) := by
  refine Met.ofW (cc := cX6_layOut) (maxL := 6) (ret := none) (by decide) rfl ?_
  intro p e s m args below meth c s₁ B hml hv
  obtain ⟨hav, hsz, hP, hK, hD0⟩ := hv
  have hx := B.exec
  have hb := B.bytes
  have hr := B.returns
  have hts := atoms_spec (ws := wsX6_layOut) B.pre
  have hown : s.vm.findClass RX6 = some m.cls := findClass_of_methodNamed B.named
  have hlk := B.notSynchronized
  have hf34 : (Cond.fieldLink RX6 34 "KeywordMatcher$Superstring" "spare" "LKeywordMatcher$ByteRow;").before args s = true := hts _ (List.mem_of_getElem? (i := 1) rfl)
  have hiX6 : ∀ w ∈ wsX60, w ∈ wsX6_layOut := fun w h => List.mem_cons_of_mem _ (List.mem_append_left _ (List.mem_append_right _ h))
  have hf37 : (Cond.fieldLink RX6 37 "KeywordMatcher$Superstring" "slots" "I").before args s = true := hts _ (List.mem_of_getElem? (i := 2) rfl)
  have hf75 : (Cond.fieldLink RX6 75 "KeywordMatcher$ByteRow" "length" "I").before args s = true := hts _ (List.mem_of_getElem? (i := 3) rfl)
  have hiX1 : ∀ w ∈ wsX10, w ∈ wsX6_layOut := fun w h => List.mem_cons_of_mem _ (List.mem_append_right _ h)
  have hf30 : (Cond.fieldLink RX6 30 "KeywordMatcher$Superstring" "area" "LKeywordMatcher$ByteRow;").before args s = true := hts _ (List.mem_of_getElem? (i := 4) rfl)
  have hf101 : (Cond.fieldLink RX6 101 "KeywordMatcher$ByteRow" "bytes" "[I").before args s = true := hts _ (List.mem_of_getElem? (i := 5) rfl)
  have hf15 : (Cond.fieldLink RX6 15 "KeywordMatcher$Superstring" "starts" "[I").before args s = true := hts _ (List.mem_of_getElem? (i := 6) rfl)
  have hf19 : (Cond.fieldLink RX6 19 "KeywordMatcher$Superstring" "lengths" "[I").before args s = true := hts _ (List.mem_of_getElem? (i := 7) rfl)
  subst hsz
  have hD := hD0.self (sz := s.heap.size)
  generalize hAe : va_A (wS cI cZ cJ q0 q1 q2 q3 q4 q5 q6 q7 q8 x_slots x_built b_sw x_folding_on a_starts a_lengths a_overlaps x_area_length a_area_bytes x_spare_length a_spare_bytes) s.heap.size = Az at hD ⊢
  have hA : ∀ q : Nat, s.heap.size ≤ q → Az q := fun q h => by rw [← hAe]; exact Or.inr h
  clear hAe
  have hSz : va_S Az s.heap s.heap [] := va_S.rf
  obtain ⟨wz, hw1⟩ : ∃ z : va_W, z = (wS cI cZ cJ q0 q1 q2 q3 q4 q5 q6 q7 q8 x_slots x_built y_b_sw x_folding_on y_a_starts y_a_lengths a_overlaps y_x_area_length y_a_area_bytes y_x_spare_length y_a_spare_bytes) := ⟨_, rfl⟩
  rw [← hw1]
  have hl := lv_entry ([.ref q0, .int (iI pz1), .int (iI pz2), .int (iI pz3)]) (n := 6) (Nat.le_of_ble_eq_true rfl)
  rw [show entryFrame m args 6 = entryFrame m ([.ref q0, .int (iI pz1), .int (iI pz2), .int (iI pz3)] : List Value).toArray 6 from by rw [hav], lg_entry_eq]
  generalize (lg_sl ([.ref q0, .int (iI pz1), .int (iI pz2), .int (iI pz3)]) ++ List.replicate (6 - (lg_sl ([.ref q0, .int (iI pz1), .int (iI pz2), .int (iI pz3)])).length) Slot.unset).toArray = ls at hl ⊢
  have hl : lv_has ls 6 [(0, .ref q0), (1, .int (iI pz1)), (2, .int (iI pz2)), (3, .int (iI pz3))] := hl
  unfold s_X6_layOut at hs
  have Lz10 : ∀ (fu : Nat) (b_sw : Bool) (a_starts : (Int → Int)) (a_lengths : (Int → Int)) (x_area_length : Int) (a_area_bytes : (Int → Int)) (x_spare_length : Int) (a_spare_bytes : (Int → Int)) (l1 : Int) (l2 : Int) (l3 : Int) (l4 : Int) (y0 : (Int → Int)) (y1 : (Int → Int)) (y2 : Int) (y3 : (Int → Int)), s_X6_layOut_10 fu x_slots a_starts a_lengths a_area_bytes x_spare_length a_spare_bytes l1 l2 l3 l4 = some (y0, y1, y2, y3) → ∀ (Hz : Heap) (lz : List Loc), va_P D vwCl (wS cI cZ cJ q0 q1 q2 q3 q4 q5 q6 q7 q8 x_slots x_built b_sw x_folding_on a_starts a_lengths a_overlaps x_area_length a_area_bytes x_spare_length a_spare_bytes) Hz → va_D Az (wS cI cZ cJ q0 q1 q2 q3 q4 q5 q6 q7 q8 x_slots x_built b_sw x_folding_on a_starts a_lengths a_overlaps x_area_length a_area_bytes x_spare_length a_spare_bytes) → va_S Az s.heap Hz lz → ∀ ls : Array Slot, lv_has ls 6 [(0, .ref q0), (1, .int (iI l1)), (2, .int (iI l2)), (3, .int (iI l3)), (4, .int (iI l4))] → (∀ (Hz : Heap) (lz : List Loc), va_P D vwCl (wS cI cZ cJ q0 q1 q2 q3 q4 q5 q6 q7 q8 x_slots x_built b_sw x_folding_on y0 y1 a_overlaps x_area_length a_area_bytes y2 y3) Hz → va_D Az (wS cI cZ cJ q0 q1 q2 q3 q4 q5 q6 q7 q8 x_slots x_built b_sw x_folding_on y0 y1 a_overlaps x_area_length a_area_bytes y2 y3) → va_S Az s.heap Hz lz → ∀ ls : Array Slot, lv_has ls 6 [(0, .ref q0)] → W p l e (headSpec wsX6_layOut rm_X6_layOut).room s m args below meth c Hz lz 0 0 (MQ below (QW D vwCl none wz Az) args s 0 0 Az) (F0 m 110 ls [])) → W p l e (headSpec wsX6_layOut rm_X6_layOut).room s m args below meth c Hz lz 0 0 (MQ below (QW D vwCl none wz Az) args s 0 0 Az) (F0 m 10 ls []) := by
    intro fu
    induction fu with
    | zero => intro b_sw a_starts a_lengths x_area_length a_area_bytes x_spare_length a_spare_bytes l1 l2 l3 l4 y0 y1 y2 y3 hs; cases hs
    | succ fu ih =>
      intro b_sw a_starts a_lengths x_area_length a_area_bytes x_spare_length a_spare_bytes l1 l2 l3 l4 y0 y1 y2 y3 hs Hz lz hP hD hSz ls hl kx
      rw [s_X6_layOut_10_s] at hs
      refine lv_iload hx hb dX6_layOut_10 (lv_at hl 4 rfl) ?_
      refine lv_aload_n hx hb dX6_layOut_12 rfl (lv_at hl 0 rfl) ?_
      refine va_get (ci := 6) (v := .int (iI x_slots)) (C := RX6) (T := TX6) (N := 8) hx hb hts hiX6 hown hK hP 0 rfl rfl 6 (by decide) hf37 (fun _ h9 => h9) rfl dX6_layOut_13 ?_
      refine k_icmp_ge (tgt := 110) hx hb hs dX6_layOut_16 (by decide) (fun hs => ?_) (fun hs => ?_)
      · refine lv_aload_n hx hb dX6_layOut_19 rfl (lv_at hl 0 rfl) ?_
        cases b_sw with
        | false =>
          refine va_get (ci := 6) (v := .ref q7) (C := RX6) (T := TX6) (N := 8) hx hb hts hiX6 hown hK hP 0 rfl rfl 5 (by decide) hf34 (fun _ h9 => h9) rfl dX6_layOut_20 ?_
          refine va_get (ci := 1) (v := .int (iI x_spare_length)) (C := RX1) (T := TX1) (N := 2) hx hb hts hiX1 hown hK hP 7 rfl rfl 1 (by decide) hf75 (fun _ h9 => h9) rfl dX6_layOut_23 ?_
          refine lv_istore (lv' := [(5, .int (iI x_spare_length)), (0, .ref q0), (1, .int (iI l1)), (2, .int (iI l2)), (3, .int (iI l3)), (4, .int (iI l4))]) hx hb dX6_layOut_26 hl (by decide) rfl (fun ls hl => ?_)
          refine lv_aload_n hx hb dX6_layOut_28 rfl (lv_at hl 1 rfl) ?_
          refine va_get (ci := 6) (v := .ref q7) (C := RX6) (T := TX6) (N := 8) hx hb hts hiX6 hown hK hP 0 rfl rfl 5 (by decide) hf34 (fun _ h9 => h9) rfl dX6_layOut_29 ?_
          refine lv_aload_n hx hb dX6_layOut_32 rfl (lv_at hl 1 rfl) ?_
          refine va_get (ci := 6) (v := .ref q5) (C := RX6) (T := TX6) (N := 8) hx hb hts hiX6 hown hK hP 0 rfl rfl 4 (by decide) hf30 (fun _ h9 => h9) rfl dX6_layOut_33 ?_
          refine va_get (ci := 1) (v := .ref q6) (C := RX1) (T := TX1) (N := 2) hx hb hts hiX1 hown hK hP 5 rfl rfl 0 (by decide) hf101 (fun _ h9 => h9) rfl dX6_layOut_36 ?_
          refine lv_aload_n hx hb dX6_layOut_39 rfl (lv_at hl 1 rfl) ?_
          refine va_get (ci := 6) (v := .ref q2) (C := RX6) (T := TX6) (N := 8) hx hb hts hiX6 hown hK hP 0 rfl rfl 1 (by decide) hf15 (fun _ h9 => h9) rfl dX6_layOut_40 ?_
          refine lv_iload hx hb dX6_layOut_43 (lv_at hl 5 rfl) ?_
          refine k_iald hx hb hK hP 2 0 rfl rfl (Nat.le_of_ble_eq_true rfl) hs dX6_layOut_45 (fun vz2 hs => ?_)
          refine lv_aload_n hx hb dX6_layOut_46 rfl (lv_at hl 1 rfl) ?_
          refine va_get (ci := 6) (v := .ref q3) (C := RX6) (T := TX6) (N := 8) hx hb hts hiX6 hown hK hP 0 rfl rfl 2 (by decide) hf19 (fun _ h9 => h9) rfl dX6_layOut_47 ?_
          refine lv_iload hx hb dX6_layOut_50 (lv_at hl 5 rfl) ?_
          refine k_iald hx hb hK hP 3 0 rfl rfl (Nat.le_of_ble_eq_true rfl) hs dX6_layOut_52 (fun vz3 hs => ?_)
          obtain ⟨vz4, vz5, hcz, hs⟩ := bd2_some hs
          refine k_wV (As := [.ref q6, .int (iI vz2), .int (iI vz3)]) (rest := []) (st1 := []) (wc := [(q7, .inr (1, [.ref q8, .int (iI x_spare_length)])), (q8, .inl (cI, 640, .inl (mI a_spare_bytes))), (q6, .inl (cI, 640, .inl (mI a_area_bytes)))]) (w1 := [(q7, .inr (1, [.ref q8, .int (iI vz4)])), (q8, .inl (cI, 640, .inl (mI vz5))), (q6, .inl (cI, 640, .inl (mI a_area_bytes)))]) ⟨hx, hb, hml, hown, hts⟩ hK hP hD hSz hA [7, 8, 6] rfl (by decide) (c_X1_appendRun l D cI cZ cJ (Nat.le_of_ble_eq_true rfl) (Nat.le_of_ble_eq_true rfl) hcz) (cwV 3 hts gX6_layOut_X1_appendRun rfl rfl rfl (by decide +kernel) ⟨Nat.le_of_ble_eq_true rfl, Nat.le_of_ble_eq_true rfl⟩) 7 rfl rfl rfl rfl rfl hl.1 rfl (lv_room (Nat.le_of_ble_eq_true rfl)) dX6_layOut_53 ⟨Nat.zero_le _, Nat.zero_le _⟩ rfl (fun Hz lz hP hD hSz => ?_)
          have hP : va_P D vwCl (wS cI cZ cJ q0 q1 q2 q3 q4 q5 q6 q7 q8 x_slots x_built false x_folding_on a_starts a_lengths a_overlaps x_area_length a_area_bytes vz4 vz5) Hz := hP
          have hD : va_D Az (wS cI cZ cJ q0 q1 q2 q3 q4 q5 q6 q7 q8 x_slots x_built false x_folding_on a_starts a_lengths a_overlaps x_area_length a_area_bytes vz4 vz5) := hD
          refine lv_iload hx hb dX6_layOut_56 (lv_at hl 5 rfl) ?_
          refine lv_iload_n hx hb dX6_layOut_58 rfl (lv_at hl 2 rfl) ?_
          refine k_icmp_ne (tgt := 78) hx hb hs dX6_layOut_59 (by decide) (fun hs => ?_) (fun hs => ?_)
          · refine lv_aload_n hx hb dX6_layOut_62 rfl (lv_at hl 1 rfl) ?_
            refine va_get (ci := 6) (v := .ref q7) (C := RX6) (T := TX6) (N := 8) hx hb hts hiX6 hown hK hP 0 rfl rfl 5 (by decide) hf34 (fun _ h9 => h9) rfl dX6_layOut_63 ?_
            refine lv_aload_n hx hb dX6_layOut_66 rfl (lv_at hl 1 rfl) ?_
            refine va_get (ci := 6) (v := .ref q5) (C := RX6) (T := TX6) (N := 8) hx hb hts hiX6 hown hK hP 0 rfl rfl 4 (by decide) hf30 (fun _ h9 => h9) rfl dX6_layOut_67 ?_
            refine va_get (ci := 1) (v := .ref q6) (C := RX1) (T := TX1) (N := 2) hx hb hts hiX1 hown hK hP 5 rfl rfl 0 (by decide) hf101 (fun _ h9 => h9) rfl dX6_layOut_70 ?_
            refine lv_iload_n hx hb dX6_layOut_73 rfl (lv_at hl 3 rfl) ?_
            refine lv_iload_n hx hb dX6_layOut_74 rfl (lv_at hl 4 rfl) ?_
            obtain ⟨vz6, vz7, hcz, hs⟩ := bd2_some hs
            refine k_wV (As := [.ref q6, .int (iI l2), .int (iI l3)]) (rest := []) (st1 := []) (wc := [(q7, .inr (1, [.ref q8, .int (iI vz4)])), (q8, .inl (cI, 640, .inl (mI vz5))), (q6, .inl (cI, 640, .inl (mI a_area_bytes)))]) (w1 := [(q7, .inr (1, [.ref q8, .int (iI vz6)])), (q8, .inl (cI, 640, .inl (mI vz7))), (q6, .inl (cI, 640, .inl (mI a_area_bytes)))]) ⟨hx, hb, hml, hown, hts⟩ hK hP hD hSz hA [7, 8, 6] rfl (by decide) (c_X1_appendRun l D cI cZ cJ (Nat.le_of_ble_eq_true rfl) (Nat.le_of_ble_eq_true rfl) hcz) (cwV 3 hts gX6_layOut_X1_appendRun rfl rfl rfl (by decide +kernel) ⟨Nat.le_of_ble_eq_true rfl, Nat.le_of_ble_eq_true rfl⟩) 7 rfl rfl rfl rfl rfl hl.1 rfl (lv_room (Nat.le_of_ble_eq_true rfl)) dX6_layOut_75 ⟨Nat.zero_le _, Nat.zero_le _⟩ rfl (fun Hz lz hP hD hSz => ?_)
            have hP : va_P D vwCl (wS cI cZ cJ q0 q1 q2 q3 q4 q5 q6 q7 q8 x_slots x_built false x_folding_on a_starts a_lengths a_overlaps x_area_length a_area_bytes vz6 vz7) Hz := hP
            have hD : va_D Az (wS cI cZ cJ q0 q1 q2 q3 q4 q5 q6 q7 q8 x_slots x_built false x_folding_on a_starts a_lengths a_overlaps x_area_length a_area_bytes vz6 vz7) := hD
            refine lv_aload_n hx hb dX6_layOut_78 rfl (lv_at hl 1 rfl) ?_
            refine va_get (ci := 6) (v := .ref q2) (C := RX6) (T := TX6) (N := 8) hx hb hts hiX6 hown hK hP 0 rfl rfl 1 (by decide) hf15 (fun _ h9 => h9) rfl dX6_layOut_79 ?_
            refine lv_iload hx hb dX6_layOut_82 (lv_at hl 5 rfl) ?_
            refine lv_iload hx hb dX6_layOut_84 (lv_at hl 0 rfl) ?_
            refine k_iast hx hb hK hP hD hSz 2 0 rfl rfl (Nat.le_of_ble_eq_true rfl) hs dX6_layOut_86 (fun Hz lz hP hD hSz hs => ?_)
            have hP : va_P D vwCl (wS cI cZ cJ q0 q1 q2 q3 q4 q5 q6 q7 q8 x_slots x_built false x_folding_on (upA a_starts l4 x_spare_length) a_lengths a_overlaps x_area_length a_area_bytes vz6 vz7) Hz := hP
            have hD : va_D Az (wS cI cZ cJ q0 q1 q2 q3 q4 q5 q6 q7 q8 x_slots x_built false x_folding_on (upA a_starts l4 x_spare_length) a_lengths a_overlaps x_area_length a_area_bytes vz6 vz7) := hD
            refine lv_aload_n hx hb dX6_layOut_87 rfl (lv_at hl 1 rfl) ?_
            refine va_get (ci := 6) (v := .ref q3) (C := RX6) (T := TX6) (N := 8) hx hb hts hiX6 hown hK hP 0 rfl rfl 2 (by decide) hf19 (fun _ h9 => h9) rfl dX6_layOut_88 ?_
            refine lv_iload hx hb dX6_layOut_91 (lv_at hl 5 rfl) ?_
            refine lv_aload_n hx hb dX6_layOut_93 rfl (lv_at hl 1 rfl) ?_
            refine va_get (ci := 6) (v := .ref q7) (C := RX6) (T := TX6) (N := 8) hx hb hts hiX6 hown hK hP 0 rfl rfl 5 (by decide) hf34 (fun _ h9 => h9) rfl dX6_layOut_94 ?_
            refine va_get (ci := 1) (v := .int (iI vz6)) (C := RX1) (T := TX1) (N := 2) hx hb hts hiX1 hown hK hP 7 rfl rfl 1 (by decide) hf75 (fun _ h9 => h9) rfl dX6_layOut_97 ?_
            refine lv_iload hx hb dX6_layOut_100 (lv_at hl 0 rfl) ?_
            refine k_isub hx hb dX6_layOut_102 ?_
            refine k_iast hx hb hK hP hD hSz 3 0 rfl rfl (Nat.le_of_ble_eq_true rfl) hs dX6_layOut_103 (fun Hz lz hP hD hSz hs => ?_)
            have hP : va_P D vwCl (wS cI cZ cJ q0 q1 q2 q3 q4 q5 q6 q7 q8 x_slots x_built false x_folding_on (upA a_starts l4 x_spare_length) (upA a_lengths l4 (vz6 - x_spare_length)) a_overlaps x_area_length a_area_bytes vz6 vz7) Hz := hP
            have hD : va_D Az (wS cI cZ cJ q0 q1 q2 q3 q4 q5 q6 q7 q8 x_slots x_built false x_folding_on (upA a_starts l4 x_spare_length) (upA a_lengths l4 (vz6 - x_spare_length)) a_overlaps x_area_length a_area_bytes vz6 vz7) := hD
            refine k_iinc (x := l4) (k := 5) (lv' := [(4, .int (iI (l4 + 1))), (5, .int (iI x_spare_length)), (0, .ref q0), (1, .int (iI l1)), (2, .int (iI l2)), (3, .int (iI l3))]) hx hb dX6_layOut_104 hl rfl (by decide) rfl (fun ls hl => ?_)
            refine lv_goto (tgt := 10) hx hb dX6_layOut_107 (by decide) ?_
            exact ih false (upA a_starts l4 x_spare_length) (upA a_lengths l4 (vz6 - x_spare_length)) x_area_length a_area_bytes vz6 vz7 l1 l2 l3 (l4 + 1) y0 y1 y2 y3 hs Hz lz hP hD hSz ls (lv_sub hl [2, 3, 4, 5, 0] rfl) kx
          · refine lv_aload_n hx hb dX6_layOut_78 rfl (lv_at hl 1 rfl) ?_
            refine va_get (ci := 6) (v := .ref q2) (C := RX6) (T := TX6) (N := 8) hx hb hts hiX6 hown hK hP 0 rfl rfl 1 (by decide) hf15 (fun _ h9 => h9) rfl dX6_layOut_79 ?_
            refine lv_iload hx hb dX6_layOut_82 (lv_at hl 5 rfl) ?_
            refine lv_iload hx hb dX6_layOut_84 (lv_at hl 0 rfl) ?_
            refine k_iast hx hb hK hP hD hSz 2 0 rfl rfl (Nat.le_of_ble_eq_true rfl) hs dX6_layOut_86 (fun Hz lz hP hD hSz hs => ?_)
            have hP : va_P D vwCl (wS cI cZ cJ q0 q1 q2 q3 q4 q5 q6 q7 q8 x_slots x_built false x_folding_on (upA a_starts l4 x_spare_length) a_lengths a_overlaps x_area_length a_area_bytes vz4 vz5) Hz := hP
            have hD : va_D Az (wS cI cZ cJ q0 q1 q2 q3 q4 q5 q6 q7 q8 x_slots x_built false x_folding_on (upA a_starts l4 x_spare_length) a_lengths a_overlaps x_area_length a_area_bytes vz4 vz5) := hD
            refine lv_aload_n hx hb dX6_layOut_87 rfl (lv_at hl 1 rfl) ?_
            refine va_get (ci := 6) (v := .ref q3) (C := RX6) (T := TX6) (N := 8) hx hb hts hiX6 hown hK hP 0 rfl rfl 2 (by decide) hf19 (fun _ h9 => h9) rfl dX6_layOut_88 ?_
            refine lv_iload hx hb dX6_layOut_91 (lv_at hl 5 rfl) ?_
            refine lv_aload_n hx hb dX6_layOut_93 rfl (lv_at hl 1 rfl) ?_
            refine va_get (ci := 6) (v := .ref q7) (C := RX6) (T := TX6) (N := 8) hx hb hts hiX6 hown hK hP 0 rfl rfl 5 (by decide) hf34 (fun _ h9 => h9) rfl dX6_layOut_94 ?_
            refine va_get (ci := 1) (v := .int (iI vz4)) (C := RX1) (T := TX1) (N := 2) hx hb hts hiX1 hown hK hP 7 rfl rfl 1 (by decide) hf75 (fun _ h9 => h9) rfl dX6_layOut_97 ?_
            refine lv_iload hx hb dX6_layOut_100 (lv_at hl 0 rfl) ?_
            refine k_isub hx hb dX6_layOut_102 ?_
            refine k_iast hx hb hK hP hD hSz 3 0 rfl rfl (Nat.le_of_ble_eq_true rfl) hs dX6_layOut_103 (fun Hz lz hP hD hSz hs => ?_)
            have hP : va_P D vwCl (wS cI cZ cJ q0 q1 q2 q3 q4 q5 q6 q7 q8 x_slots x_built false x_folding_on (upA a_starts l4 x_spare_length) (upA a_lengths l4 (vz4 - x_spare_length)) a_overlaps x_area_length a_area_bytes vz4 vz5) Hz := hP
            have hD : va_D Az (wS cI cZ cJ q0 q1 q2 q3 q4 q5 q6 q7 q8 x_slots x_built false x_folding_on (upA a_starts l4 x_spare_length) (upA a_lengths l4 (vz4 - x_spare_length)) a_overlaps x_area_length a_area_bytes vz4 vz5) := hD
            refine k_iinc (x := l4) (k := 5) (lv' := [(4, .int (iI (l4 + 1))), (5, .int (iI x_spare_length)), (0, .ref q0), (1, .int (iI l1)), (2, .int (iI l2)), (3, .int (iI l3))]) hx hb dX6_layOut_104 hl rfl (by decide) rfl (fun ls hl => ?_)
            refine lv_goto (tgt := 10) hx hb dX6_layOut_107 (by decide) ?_
            exact ih false (upA a_starts l4 x_spare_length) (upA a_lengths l4 (vz4 - x_spare_length)) x_area_length a_area_bytes vz4 vz5 l1 l2 l3 (l4 + 1) y0 y1 y2 y3 hs Hz lz hP hD hSz ls (lv_sub hl [2, 3, 4, 5, 0] rfl) kx
        | true =>
          refine va_get (ci := 6) (v := .ref q5) (C := RX6) (T := TX6) (N := 8) hx hb hts hiX6 hown hK hP 0 rfl rfl 5 (by decide) hf34 (fun _ h9 => h9) rfl dX6_layOut_20 ?_
          refine va_get (ci := 1) (v := .int (iI x_spare_length)) (C := RX1) (T := TX1) (N := 2) hx hb hts hiX1 hown hK hP 5 rfl rfl 1 (by decide) hf75 (fun _ h9 => h9) rfl dX6_layOut_23 ?_
          refine lv_istore (lv' := [(5, .int (iI x_spare_length)), (0, .ref q0), (1, .int (iI l1)), (2, .int (iI l2)), (3, .int (iI l3)), (4, .int (iI l4))]) hx hb dX6_layOut_26 hl (by decide) rfl (fun ls hl => ?_)
          refine lv_aload_n hx hb dX6_layOut_28 rfl (lv_at hl 1 rfl) ?_
          refine va_get (ci := 6) (v := .ref q5) (C := RX6) (T := TX6) (N := 8) hx hb hts hiX6 hown hK hP 0 rfl rfl 5 (by decide) hf34 (fun _ h9 => h9) rfl dX6_layOut_29 ?_
          refine lv_aload_n hx hb dX6_layOut_32 rfl (lv_at hl 1 rfl) ?_
          refine va_get (ci := 6) (v := .ref q7) (C := RX6) (T := TX6) (N := 8) hx hb hts hiX6 hown hK hP 0 rfl rfl 4 (by decide) hf30 (fun _ h9 => h9) rfl dX6_layOut_33 ?_
          refine va_get (ci := 1) (v := .ref q8) (C := RX1) (T := TX1) (N := 2) hx hb hts hiX1 hown hK hP 7 rfl rfl 0 (by decide) hf101 (fun _ h9 => h9) rfl dX6_layOut_36 ?_
          refine lv_aload_n hx hb dX6_layOut_39 rfl (lv_at hl 1 rfl) ?_
          refine va_get (ci := 6) (v := .ref q2) (C := RX6) (T := TX6) (N := 8) hx hb hts hiX6 hown hK hP 0 rfl rfl 1 (by decide) hf15 (fun _ h9 => h9) rfl dX6_layOut_40 ?_
          refine lv_iload hx hb dX6_layOut_43 (lv_at hl 5 rfl) ?_
          refine k_iald hx hb hK hP 2 0 rfl rfl (Nat.le_of_ble_eq_true rfl) hs dX6_layOut_45 (fun vz8 hs => ?_)
          refine lv_aload_n hx hb dX6_layOut_46 rfl (lv_at hl 1 rfl) ?_
          refine va_get (ci := 6) (v := .ref q3) (C := RX6) (T := TX6) (N := 8) hx hb hts hiX6 hown hK hP 0 rfl rfl 2 (by decide) hf19 (fun _ h9 => h9) rfl dX6_layOut_47 ?_
          refine lv_iload hx hb dX6_layOut_50 (lv_at hl 5 rfl) ?_
          refine k_iald hx hb hK hP 3 0 rfl rfl (Nat.le_of_ble_eq_true rfl) hs dX6_layOut_52 (fun vz9 hs => ?_)
          obtain ⟨vz10, vz11, hcz, hs⟩ := bd2_some hs
          refine k_wV (As := [.ref q8, .int (iI vz8), .int (iI vz9)]) (rest := []) (st1 := []) (wc := [(q5, .inr (1, [.ref q6, .int (iI x_spare_length)])), (q6, .inl (cI, 640, .inl (mI a_spare_bytes))), (q8, .inl (cI, 640, .inl (mI a_area_bytes)))]) (w1 := [(q5, .inr (1, [.ref q6, .int (iI vz10)])), (q6, .inl (cI, 640, .inl (mI vz11))), (q8, .inl (cI, 640, .inl (mI a_area_bytes)))]) ⟨hx, hb, hml, hown, hts⟩ hK hP hD hSz hA [5, 6, 8] rfl (by decide) (c_X1_appendRun l D cI cZ cJ (Nat.le_of_ble_eq_true rfl) (Nat.le_of_ble_eq_true rfl) hcz) (cwV 3 hts gX6_layOut_X1_appendRun rfl rfl rfl (by decide +kernel) ⟨Nat.le_of_ble_eq_true rfl, Nat.le_of_ble_eq_true rfl⟩) 5 rfl rfl rfl rfl rfl hl.1 rfl (lv_room (Nat.le_of_ble_eq_true rfl)) dX6_layOut_53 ⟨Nat.zero_le _, Nat.zero_le _⟩ rfl (fun Hz lz hP hD hSz => ?_)
          have hP : va_P D vwCl (wS cI cZ cJ q0 q1 q2 q3 q4 q5 q6 q7 q8 x_slots x_built true x_folding_on a_starts a_lengths a_overlaps x_area_length a_area_bytes vz10 vz11) Hz := hP
          have hD : va_D Az (wS cI cZ cJ q0 q1 q2 q3 q4 q5 q6 q7 q8 x_slots x_built true x_folding_on a_starts a_lengths a_overlaps x_area_length a_area_bytes vz10 vz11) := hD
          refine lv_iload hx hb dX6_layOut_56 (lv_at hl 5 rfl) ?_
          refine lv_iload_n hx hb dX6_layOut_58 rfl (lv_at hl 2 rfl) ?_
          refine k_icmp_ne (tgt := 78) hx hb hs dX6_layOut_59 (by decide) (fun hs => ?_) (fun hs => ?_)
          · refine lv_aload_n hx hb dX6_layOut_62 rfl (lv_at hl 1 rfl) ?_
            refine va_get (ci := 6) (v := .ref q5) (C := RX6) (T := TX6) (N := 8) hx hb hts hiX6 hown hK hP 0 rfl rfl 5 (by decide) hf34 (fun _ h9 => h9) rfl dX6_layOut_63 ?_
            refine lv_aload_n hx hb dX6_layOut_66 rfl (lv_at hl 1 rfl) ?_
            refine va_get (ci := 6) (v := .ref q7) (C := RX6) (T := TX6) (N := 8) hx hb hts hiX6 hown hK hP 0 rfl rfl 4 (by decide) hf30 (fun _ h9 => h9) rfl dX6_layOut_67 ?_
            refine va_get (ci := 1) (v := .ref q8) (C := RX1) (T := TX1) (N := 2) hx hb hts hiX1 hown hK hP 7 rfl rfl 0 (by decide) hf101 (fun _ h9 => h9) rfl dX6_layOut_70 ?_
            refine lv_iload_n hx hb dX6_layOut_73 rfl (lv_at hl 3 rfl) ?_
            refine lv_iload_n hx hb dX6_layOut_74 rfl (lv_at hl 4 rfl) ?_
            obtain ⟨vz12, vz13, hcz, hs⟩ := bd2_some hs
            refine k_wV (As := [.ref q8, .int (iI l2), .int (iI l3)]) (rest := []) (st1 := []) (wc := [(q5, .inr (1, [.ref q6, .int (iI vz10)])), (q6, .inl (cI, 640, .inl (mI vz11))), (q8, .inl (cI, 640, .inl (mI a_area_bytes)))]) (w1 := [(q5, .inr (1, [.ref q6, .int (iI vz12)])), (q6, .inl (cI, 640, .inl (mI vz13))), (q8, .inl (cI, 640, .inl (mI a_area_bytes)))]) ⟨hx, hb, hml, hown, hts⟩ hK hP hD hSz hA [5, 6, 8] rfl (by decide) (c_X1_appendRun l D cI cZ cJ (Nat.le_of_ble_eq_true rfl) (Nat.le_of_ble_eq_true rfl) hcz) (cwV 3 hts gX6_layOut_X1_appendRun rfl rfl rfl (by decide +kernel) ⟨Nat.le_of_ble_eq_true rfl, Nat.le_of_ble_eq_true rfl⟩) 5 rfl rfl rfl rfl rfl hl.1 rfl (lv_room (Nat.le_of_ble_eq_true rfl)) dX6_layOut_75 ⟨Nat.zero_le _, Nat.zero_le _⟩ rfl (fun Hz lz hP hD hSz => ?_)
            have hP : va_P D vwCl (wS cI cZ cJ q0 q1 q2 q3 q4 q5 q6 q7 q8 x_slots x_built true x_folding_on a_starts a_lengths a_overlaps x_area_length a_area_bytes vz12 vz13) Hz := hP
            have hD : va_D Az (wS cI cZ cJ q0 q1 q2 q3 q4 q5 q6 q7 q8 x_slots x_built true x_folding_on a_starts a_lengths a_overlaps x_area_length a_area_bytes vz12 vz13) := hD
            refine lv_aload_n hx hb dX6_layOut_78 rfl (lv_at hl 1 rfl) ?_
            refine va_get (ci := 6) (v := .ref q2) (C := RX6) (T := TX6) (N := 8) hx hb hts hiX6 hown hK hP 0 rfl rfl 1 (by decide) hf15 (fun _ h9 => h9) rfl dX6_layOut_79 ?_
            refine lv_iload hx hb dX6_layOut_82 (lv_at hl 5 rfl) ?_
            refine lv_iload hx hb dX6_layOut_84 (lv_at hl 0 rfl) ?_
            refine k_iast hx hb hK hP hD hSz 2 0 rfl rfl (Nat.le_of_ble_eq_true rfl) hs dX6_layOut_86 (fun Hz lz hP hD hSz hs => ?_)
            have hP : va_P D vwCl (wS cI cZ cJ q0 q1 q2 q3 q4 q5 q6 q7 q8 x_slots x_built true x_folding_on (upA a_starts l4 x_spare_length) a_lengths a_overlaps x_area_length a_area_bytes vz12 vz13) Hz := hP
            have hD : va_D Az (wS cI cZ cJ q0 q1 q2 q3 q4 q5 q6 q7 q8 x_slots x_built true x_folding_on (upA a_starts l4 x_spare_length) a_lengths a_overlaps x_area_length a_area_bytes vz12 vz13) := hD
            refine lv_aload_n hx hb dX6_layOut_87 rfl (lv_at hl 1 rfl) ?_
            refine va_get (ci := 6) (v := .ref q3) (C := RX6) (T := TX6) (N := 8) hx hb hts hiX6 hown hK hP 0 rfl rfl 2 (by decide) hf19 (fun _ h9 => h9) rfl dX6_layOut_88 ?_
            refine lv_iload hx hb dX6_layOut_91 (lv_at hl 5 rfl) ?_
            refine lv_aload_n hx hb dX6_layOut_93 rfl (lv_at hl 1 rfl) ?_
            refine va_get (ci := 6) (v := .ref q5) (C := RX6) (T := TX6) (N := 8) hx hb hts hiX6 hown hK hP 0 rfl rfl 5 (by decide) hf34 (fun _ h9 => h9) rfl dX6_layOut_94 ?_
            refine va_get (ci := 1) (v := .int (iI vz12)) (C := RX1) (T := TX1) (N := 2) hx hb hts hiX1 hown hK hP 5 rfl rfl 1 (by decide) hf75 (fun _ h9 => h9) rfl dX6_layOut_97 ?_
            refine lv_iload hx hb dX6_layOut_100 (lv_at hl 0 rfl) ?_
            refine k_isub hx hb dX6_layOut_102 ?_
            refine k_iast hx hb hK hP hD hSz 3 0 rfl rfl (Nat.le_of_ble_eq_true rfl) hs dX6_layOut_103 (fun Hz lz hP hD hSz hs => ?_)
            have hP : va_P D vwCl (wS cI cZ cJ q0 q1 q2 q3 q4 q5 q6 q7 q8 x_slots x_built true x_folding_on (upA a_starts l4 x_spare_length) (upA a_lengths l4 (vz12 - x_spare_length)) a_overlaps x_area_length a_area_bytes vz12 vz13) Hz := hP
            have hD : va_D Az (wS cI cZ cJ q0 q1 q2 q3 q4 q5 q6 q7 q8 x_slots x_built true x_folding_on (upA a_starts l4 x_spare_length) (upA a_lengths l4 (vz12 - x_spare_length)) a_overlaps x_area_length a_area_bytes vz12 vz13) := hD
            refine k_iinc (x := l4) (k := 5) (lv' := [(4, .int (iI (l4 + 1))), (5, .int (iI x_spare_length)), (0, .ref q0), (1, .int (iI l1)), (2, .int (iI l2)), (3, .int (iI l3))]) hx hb dX6_layOut_104 hl rfl (by decide) rfl (fun ls hl => ?_)
            refine lv_goto (tgt := 10) hx hb dX6_layOut_107 (by decide) ?_
            exact ih true (upA a_starts l4 x_spare_length) (upA a_lengths l4 (vz12 - x_spare_length)) x_area_length a_area_bytes vz12 vz13 l1 l2 l3 (l4 + 1) y0 y1 y2 y3 hs Hz lz hP hD hSz ls (lv_sub hl [2, 3, 4, 5, 0] rfl) kx
          · refine lv_aload_n hx hb dX6_layOut_78 rfl (lv_at hl 1 rfl) ?_
            refine va_get (ci := 6) (v := .ref q2) (C := RX6) (T := TX6) (N := 8) hx hb hts hiX6 hown hK hP 0 rfl rfl 1 (by decide) hf15 (fun _ h9 => h9) rfl dX6_layOut_79 ?_
            refine lv_iload hx hb dX6_layOut_82 (lv_at hl 5 rfl) ?_
            refine lv_iload hx hb dX6_layOut_84 (lv_at hl 0 rfl) ?_
            refine k_iast hx hb hK hP hD hSz 2 0 rfl rfl (Nat.le_of_ble_eq_true rfl) hs dX6_layOut_86 (fun Hz lz hP hD hSz hs => ?_)
            have hP : va_P D vwCl (wS cI cZ cJ q0 q1 q2 q3 q4 q5 q6 q7 q8 x_slots x_built true x_folding_on (upA a_starts l4 x_spare_length) a_lengths a_overlaps x_area_length a_area_bytes vz10 vz11) Hz := hP
            have hD : va_D Az (wS cI cZ cJ q0 q1 q2 q3 q4 q5 q6 q7 q8 x_slots x_built true x_folding_on (upA a_starts l4 x_spare_length) a_lengths a_overlaps x_area_length a_area_bytes vz10 vz11) := hD
            refine lv_aload_n hx hb dX6_layOut_87 rfl (lv_at hl 1 rfl) ?_
            refine va_get (ci := 6) (v := .ref q3) (C := RX6) (T := TX6) (N := 8) hx hb hts hiX6 hown hK hP 0 rfl rfl 2 (by decide) hf19 (fun _ h9 => h9) rfl dX6_layOut_88 ?_
            refine lv_iload hx hb dX6_layOut_91 (lv_at hl 5 rfl) ?_
            refine lv_aload_n hx hb dX6_layOut_93 rfl (lv_at hl 1 rfl) ?_
            refine va_get (ci := 6) (v := .ref q5) (C := RX6) (T := TX6) (N := 8) hx hb hts hiX6 hown hK hP 0 rfl rfl 5 (by decide) hf34 (fun _ h9 => h9) rfl dX6_layOut_94 ?_
            refine va_get (ci := 1) (v := .int (iI vz10)) (C := RX1) (T := TX1) (N := 2) hx hb hts hiX1 hown hK hP 5 rfl rfl 1 (by decide) hf75 (fun _ h9 => h9) rfl dX6_layOut_97 ?_
            refine lv_iload hx hb dX6_layOut_100 (lv_at hl 0 rfl) ?_
            refine k_isub hx hb dX6_layOut_102 ?_
            refine k_iast hx hb hK hP hD hSz 3 0 rfl rfl (Nat.le_of_ble_eq_true rfl) hs dX6_layOut_103 (fun Hz lz hP hD hSz hs => ?_)
            have hP : va_P D vwCl (wS cI cZ cJ q0 q1 q2 q3 q4 q5 q6 q7 q8 x_slots x_built true x_folding_on (upA a_starts l4 x_spare_length) (upA a_lengths l4 (vz10 - x_spare_length)) a_overlaps x_area_length a_area_bytes vz10 vz11) Hz := hP
            have hD : va_D Az (wS cI cZ cJ q0 q1 q2 q3 q4 q5 q6 q7 q8 x_slots x_built true x_folding_on (upA a_starts l4 x_spare_length) (upA a_lengths l4 (vz10 - x_spare_length)) a_overlaps x_area_length a_area_bytes vz10 vz11) := hD
            refine k_iinc (x := l4) (k := 5) (lv' := [(4, .int (iI (l4 + 1))), (5, .int (iI x_spare_length)), (0, .ref q0), (1, .int (iI l1)), (2, .int (iI l2)), (3, .int (iI l3))]) hx hb dX6_layOut_104 hl rfl (by decide) rfl (fun ls hl => ?_)
            refine lv_goto (tgt := 10) hx hb dX6_layOut_107 (by decide) ?_
            exact ih true (upA a_starts l4 x_spare_length) (upA a_lengths l4 (vz10 - x_spare_length)) x_area_length a_area_bytes vz10 vz11 l1 l2 l3 (l4 + 1) y0 y1 y2 y3 hs Hz lz hP hD hSz ls (lv_sub hl [2, 3, 4, 5, 0] rfl) kx
      · cases hs
        exact kx Hz lz hP hD hSz ls (lv_sub hl [0] rfl)
  refine (?_ : ∀ (Hz : Heap) (lz : List Loc), va_P D vwCl (wS cI cZ cJ q0 q1 q2 q3 q4 q5 q6 q7 q8 x_slots x_built b_sw x_folding_on a_starts a_lengths a_overlaps x_area_length a_area_bytes x_spare_length a_spare_bytes) Hz → va_D Az (wS cI cZ cJ q0 q1 q2 q3 q4 q5 q6 q7 q8 x_slots x_built b_sw x_folding_on a_starts a_lengths a_overlaps x_area_length a_area_bytes x_spare_length a_spare_bytes) → va_S Az s.heap Hz lz → W p l e (headSpec wsX6_layOut rm_X6_layOut).room s m args below meth c Hz lz 0 0 (MQ below (QW D vwCl none wz Az) args s 0 0 Az) (F0 m 0 ls [])) s.heap [] hP hD hSz
  intro Hz lz hP hD hSz
  refine lv_aload_n hx hb dX6_layOut_0 rfl (lv_at hl 0 rfl) ?_
  cases b_sw with
  | false =>
    refine va_get (ci := 6) (v := .ref q7) (C := RX6) (T := TX6) (N := 8) hx hb hts hiX6 hown hK hP 0 rfl rfl 5 (by decide) hf34 (fun _ h9 => h9) rfl dX6_layOut_1 ?_
    obtain ⟨vz1, hcz, hs⟩ := bd1_some hs
    refine k_wV (As := []) (rest := []) (st1 := []) (wc := [(q7, .inr (1, [.ref q8, .int (iI x_spare_length)])), (q8, .inl (cI, 640, .inl (mI a_spare_bytes)))]) (w1 := [(q7, .inr (1, [.ref q8, .int (iI vz1)])), (q8, .inl (cI, 640, .inl (mI a_spare_bytes)))]) ⟨hx, hb, hml, hown, hts⟩ hK hP hD hSz hA [7, 8] rfl (by decide) (c_X1_clear l D cI cZ cJ (Nat.le_of_ble_eq_true rfl) hcz) (cwV 0 hts gX6_layOut_X1_clear rfl rfl rfl (by decide +kernel) ⟨Nat.le_of_ble_eq_true rfl, Nat.le_of_ble_eq_true rfl⟩) 7 rfl rfl rfl rfl rfl hl.1 rfl (lv_room (Nat.le_of_ble_eq_true rfl)) dX6_layOut_4 ⟨Nat.zero_le _, Nat.zero_le _⟩ rfl (fun Hz lz hP hD hSz => ?_)
    have hP : va_P D vwCl (wS cI cZ cJ q0 q1 q2 q3 q4 q5 q6 q7 q8 x_slots x_built false x_folding_on a_starts a_lengths a_overlaps x_area_length a_area_bytes vz1 a_spare_bytes) Hz := hP
    have hD : va_D Az (wS cI cZ cJ q0 q1 q2 q3 q4 q5 q6 q7 q8 x_slots x_built false x_folding_on a_starts a_lengths a_overlaps x_area_length a_area_bytes vz1 a_spare_bytes) := hD
    refine k_iconst (n := 0) hx hb dX6_layOut_7 ?_
    refine lv_istore (lv' := [(4, .int (iI 0)), (0, .ref q0), (1, .int (iI pz1)), (2, .int (iI pz2)), (3, .int (iI pz3))]) hx hb dX6_layOut_8 hl (by decide) rfl (fun ls hl => ?_)
    obtain ⟨ez14, ez15, ez16, ez17, hq, hs⟩ := bd4_some hs
    refine Lz10 FU false a_starts a_lengths x_area_length a_area_bytes vz1 a_spare_bytes pz1 pz2 pz3 0 ez14 ez15 ez16 ez17 hq Hz lz hP hD hSz ls (lv_sub hl [1, 2, 3, 4, 0] rfl) ?_
    intro Hz lz hP hD hSz ls hl
    refine lv_aload_n hx hb dX6_layOut_110 rfl (lv_at hl 0 rfl) ?_
    refine va_get (ci := 6) (v := .ref q5) (C := RX6) (T := TX6) (N := 8) hx hb hts hiX6 hown hK hP 0 rfl rfl 4 (by decide) hf30 (fun _ h9 => h9) rfl dX6_layOut_111 ?_
    refine lv_astore (lv' := [(4, .ref q5), (0, .ref q0)]) hx hb dX6_layOut_114 hl (by decide) rfl (fun ls hl => ?_)
    refine lv_aload_n hx hb dX6_layOut_116 rfl (lv_at hl 1 rfl) ?_
    refine lv_aload_n hx hb dX6_layOut_117 rfl (lv_at hl 1 rfl) ?_
    refine va_get (ci := 6) (v := .ref q7) (C := RX6) (T := TX6) (N := 8) hx hb hts hiX6 hown hK hP 0 rfl rfl 5 (by decide) hf34 (fun _ h9 => h9) rfl dX6_layOut_118 ?_
    refine va_put (ci := 6) (v := .ref q7) (ty := (.object "KeywordMatcher$ByteRow")) (C := RX6) (T := TX6) (N := 8) hx hb hts hiX6 tyX6 tyX6_ok nmX6 hown hK hP hD hSz 0 rfl rfl 4 (by decide) hf30 (fun _ h9 => h9) rfl (by decide +kernel) rfl rfl (Nat.le_of_ble_eq_true rfl) dX6_layOut_121 (fun Hz lz hP hD hSz => ?_)
    have hP : va_P D vwCl [(q0, .inr (6, [.ref q1, .ref q2, .ref q3, .ref q4, .ref q7, .ref q7, .int (iI x_slots), .int (iI x_built)])), (q1, .inr (2, [.int (iI x_folding_on)])), (q2, .inl (cI, 40, .inl (mI ez14))), (q3, .inl (cI, 40, .inl (mI ez15))), (q4, .inl (cI, 1600, .inl (mI a_overlaps))), (q5, .inr (1, [.ref q6, .int (iI x_area_length)])), (q6, .inl (cI, 640, .inl (mI a_area_bytes))), (q7, .inr (1, [.ref q8, .int (iI ez16)])), (q8, .inl (cI, 640, .inl (mI ez17)))] Hz := hP
    have hD : va_D Az [(q0, .inr (6, [.ref q1, .ref q2, .ref q3, .ref q4, .ref q7, .ref q7, .int (iI x_slots), .int (iI x_built)])), (q1, .inr (2, [.int (iI x_folding_on)])), (q2, .inl (cI, 40, .inl (mI ez14))), (q3, .inl (cI, 40, .inl (mI ez15))), (q4, .inl (cI, 1600, .inl (mI a_overlaps))), (q5, .inr (1, [.ref q6, .int (iI x_area_length)])), (q6, .inl (cI, 640, .inl (mI a_area_bytes))), (q7, .inr (1, [.ref q8, .int (iI ez16)])), (q8, .inl (cI, 640, .inl (mI ez17)))] := hD
    refine lv_aload_n hx hb dX6_layOut_124 rfl (lv_at hl 1 rfl) ?_
    refine lv_aload hx hb dX6_layOut_125 (lv_at hl 0 rfl) ?_
    refine va_put (ci := 6) (v := .ref q5) (ty := (.object "KeywordMatcher$ByteRow")) (C := RX6) (T := TX6) (N := 8) hx hb hts hiX6 tyX6 tyX6_ok nmX6 hown hK hP hD hSz 0 rfl rfl 5 (by decide) hf34 (fun _ h9 => h9) rfl (by decide +kernel) rfl rfl (Nat.le_of_ble_eq_true rfl) dX6_layOut_127 (fun Hz lz hP hD hSz => ?_)
    have hP : va_P D vwCl (wS cI cZ cJ q0 q1 q2 q3 q4 q5 q6 q7 q8 x_slots x_built true x_folding_on ez14 ez15 a_overlaps ez16 ez17 x_area_length a_area_bytes) Hz := hP
    have hD : va_D Az (wS cI cZ cJ q0 q1 q2 q3 q4 q5 q6 q7 q8 x_slots x_built true x_folding_on ez14 ez15 a_overlaps ez16 ez17 x_area_length a_area_bytes) := hD
    cases hs
    exact k_vret_w hx hb hr hlk (by rw [hw1]; exact hP) hSz dX6_layOut_130 rfl
  | true =>
    refine va_get (ci := 6) (v := .ref q5) (C := RX6) (T := TX6) (N := 8) hx hb hts hiX6 hown hK hP 0 rfl rfl 5 (by decide) hf34 (fun _ h9 => h9) rfl dX6_layOut_1 ?_
    obtain ⟨vz18, hcz, hs⟩ := bd1_some hs
    refine k_wV (As := []) (rest := []) (st1 := []) (wc := [(q5, .inr (1, [.ref q6, .int (iI x_spare_length)])), (q6, .inl (cI, 640, .inl (mI a_spare_bytes)))]) (w1 := [(q5, .inr (1, [.ref q6, .int (iI vz18)])), (q6, .inl (cI, 640, .inl (mI a_spare_bytes)))]) ⟨hx, hb, hml, hown, hts⟩ hK hP hD hSz hA [5, 6] rfl (by decide) (c_X1_clear l D cI cZ cJ (Nat.le_of_ble_eq_true rfl) hcz) (cwV 0 hts gX6_layOut_X1_clear rfl rfl rfl (by decide +kernel) ⟨Nat.le_of_ble_eq_true rfl, Nat.le_of_ble_eq_true rfl⟩) 5 rfl rfl rfl rfl rfl hl.1 rfl (lv_room (Nat.le_of_ble_eq_true rfl)) dX6_layOut_4 ⟨Nat.zero_le _, Nat.zero_le _⟩ rfl (fun Hz lz hP hD hSz => ?_)
    have hP : va_P D vwCl (wS cI cZ cJ q0 q1 q2 q3 q4 q5 q6 q7 q8 x_slots x_built true x_folding_on a_starts a_lengths a_overlaps x_area_length a_area_bytes vz18 a_spare_bytes) Hz := hP
    have hD : va_D Az (wS cI cZ cJ q0 q1 q2 q3 q4 q5 q6 q7 q8 x_slots x_built true x_folding_on a_starts a_lengths a_overlaps x_area_length a_area_bytes vz18 a_spare_bytes) := hD
    refine k_iconst (n := 0) hx hb dX6_layOut_7 ?_
    refine lv_istore (lv' := [(4, .int (iI 0)), (0, .ref q0), (1, .int (iI pz1)), (2, .int (iI pz2)), (3, .int (iI pz3))]) hx hb dX6_layOut_8 hl (by decide) rfl (fun ls hl => ?_)
    obtain ⟨ez19, ez20, ez21, ez22, hq, hs⟩ := bd4_some hs
    refine Lz10 FU true a_starts a_lengths x_area_length a_area_bytes vz18 a_spare_bytes pz1 pz2 pz3 0 ez19 ez20 ez21 ez22 hq Hz lz hP hD hSz ls (lv_sub hl [1, 2, 3, 4, 0] rfl) ?_
    intro Hz lz hP hD hSz ls hl
    refine lv_aload_n hx hb dX6_layOut_110 rfl (lv_at hl 0 rfl) ?_
    refine va_get (ci := 6) (v := .ref q7) (C := RX6) (T := TX6) (N := 8) hx hb hts hiX6 hown hK hP 0 rfl rfl 4 (by decide) hf30 (fun _ h9 => h9) rfl dX6_layOut_111 ?_
    refine lv_astore (lv' := [(4, .ref q7), (0, .ref q0)]) hx hb dX6_layOut_114 hl (by decide) rfl (fun ls hl => ?_)
    refine lv_aload_n hx hb dX6_layOut_116 rfl (lv_at hl 1 rfl) ?_
    refine lv_aload_n hx hb dX6_layOut_117 rfl (lv_at hl 1 rfl) ?_
    refine va_get (ci := 6) (v := .ref q5) (C := RX6) (T := TX6) (N := 8) hx hb hts hiX6 hown hK hP 0 rfl rfl 5 (by decide) hf34 (fun _ h9 => h9) rfl dX6_layOut_118 ?_
    refine va_put (ci := 6) (v := .ref q5) (ty := (.object "KeywordMatcher$ByteRow")) (C := RX6) (T := TX6) (N := 8) hx hb hts hiX6 tyX6 tyX6_ok nmX6 hown hK hP hD hSz 0 rfl rfl 4 (by decide) hf30 (fun _ h9 => h9) rfl (by decide +kernel) rfl rfl (Nat.le_of_ble_eq_true rfl) dX6_layOut_121 (fun Hz lz hP hD hSz => ?_)
    have hP : va_P D vwCl [(q0, .inr (6, [.ref q1, .ref q2, .ref q3, .ref q4, .ref q5, .ref q5, .int (iI x_slots), .int (iI x_built)])), (q1, .inr (2, [.int (iI x_folding_on)])), (q2, .inl (cI, 40, .inl (mI ez19))), (q3, .inl (cI, 40, .inl (mI ez20))), (q4, .inl (cI, 1600, .inl (mI a_overlaps))), (q5, .inr (1, [.ref q6, .int (iI ez21)])), (q6, .inl (cI, 640, .inl (mI ez22))), (q7, .inr (1, [.ref q8, .int (iI x_area_length)])), (q8, .inl (cI, 640, .inl (mI a_area_bytes)))] Hz := hP
    have hD : va_D Az [(q0, .inr (6, [.ref q1, .ref q2, .ref q3, .ref q4, .ref q5, .ref q5, .int (iI x_slots), .int (iI x_built)])), (q1, .inr (2, [.int (iI x_folding_on)])), (q2, .inl (cI, 40, .inl (mI ez19))), (q3, .inl (cI, 40, .inl (mI ez20))), (q4, .inl (cI, 1600, .inl (mI a_overlaps))), (q5, .inr (1, [.ref q6, .int (iI ez21)])), (q6, .inl (cI, 640, .inl (mI ez22))), (q7, .inr (1, [.ref q8, .int (iI x_area_length)])), (q8, .inl (cI, 640, .inl (mI a_area_bytes)))] := hD
    refine lv_aload_n hx hb dX6_layOut_124 rfl (lv_at hl 1 rfl) ?_
    refine lv_aload hx hb dX6_layOut_125 (lv_at hl 0 rfl) ?_
    refine va_put (ci := 6) (v := .ref q7) (ty := (.object "KeywordMatcher$ByteRow")) (C := RX6) (T := TX6) (N := 8) hx hb hts hiX6 tyX6 tyX6_ok nmX6 hown hK hP hD hSz 0 rfl rfl 5 (by decide) hf34 (fun _ h9 => h9) rfl (by decide +kernel) rfl rfl (Nat.le_of_ble_eq_true rfl) dX6_layOut_127 (fun Hz lz hP hD hSz => ?_)
    have hP : va_P D vwCl (wS cI cZ cJ q0 q1 q2 q3 q4 q5 q6 q7 q8 x_slots x_built false x_folding_on ez19 ez20 a_overlaps ez21 ez22 x_area_length a_area_bytes) Hz := hP
    have hD : va_D Az (wS cI cZ cJ q0 q1 q2 q3 q4 q5 q6 q7 q8 x_slots x_built false x_folding_on ez19 ez20 a_overlaps ez21 ez22 x_area_length a_area_bytes) := hD
    cases hs
    exact k_vret_w hx hb hr hlk (by rw [hw1]; exact hP) hSz dX6_layOut_130 rfl
/-! X6_join -/
noncomputable def s_X6_join (x_slots : Int) (b_sw : Bool) (a_starts : (Int → Int)) (a_lengths : (Int → Int)) (a_overlaps : (Int → Int)) (x_area_length : Int) (a_area_bytes : (Int → Int)) (x_spare_length : Int) (a_spare_bytes : (Int → Int)) (pz1 : Int) (pz2 : Int) : Option (Bool × (Int → Int) × (Int → Int) × Int × (Int → Int) × Int × (Int → Int)) := (rdA a_overlaps 1600 ((pz1 * 40) + pz2)).bind (fun vz1 => (rdA a_starts 40 pz2).bind (fun vz2 => (rdA a_lengths 40 pz2).bind (fun vz3 => cN 40 pz2 (bd7 (s_X6_layOut x_slots b_sw a_starts (upA a_lengths pz2 0) x_area_length a_area_bytes x_spare_length a_spare_bytes pz1 (vz2 + vz1) (vz3 - vz1)) (fun vz4 vz5 vz6 vz7 vz8 vz9 vz10 => some (vz4, vz5, vz6, vz7, vz8, vz9, vz10))))))
def rm_X6_join : Room := { frames := 3, cells := 0, slots := 0, locals := 88 }
set_option maxHeartbeats 4000000 in
set_option maxRecDepth 100000 in
theorem c_X6_join (l : Launch) (D : va_G) (cI cZ cJ : ClassId) {q0 q1 q2 q3 q4 q5 q6 q7 q8 : Nat} {x_slots : Int} {x_built : Int} {b_sw : Bool} {x_folding_on : Int} {a_starts : (Int → Int)} {a_lengths : (Int → Int)} {a_overlaps : (Int → Int)} {x_area_length : Int} {a_area_bytes : (Int → Int)} {x_spare_length : Int} {a_spare_bytes : (Int → Int)} {pz1 : Int} {pz2 : Int} {y_b_sw : Bool} {y_a_starts : (Int → Int)} {y_a_lengths : (Int → Int)} {y_x_area_length : Int} {y_a_area_bytes : (Int → Int)} {y_x_spare_length : Int} {y_a_spare_bytes : (Int → Int)} {sz : Nat} (hs : s_X6_join x_slots b_sw a_starts a_lengths a_overlaps x_area_length a_area_bytes x_spare_length a_spare_bytes pz1 pz2 = some (y_b_sw, y_a_starts, y_a_lengths, y_x_area_length, y_a_area_bytes, y_x_spare_length, y_a_spare_bytes)) : Met l yX6_join wsX6_join rm_X6_join (PW D vwCl [(cI, .int), (cZ, .boolean), (cJ, .long)] [.ref q0, .int (iI pz1), .int (iI pz2)] (wS cI cZ cJ q0 q1 q2 q3 q4 q5 q6 q7 q8 x_slots x_built b_sw x_folding_on a_starts a_lengths a_overlaps x_area_length a_area_bytes x_spare_length a_spare_bytes) sz) (QW D vwCl none (wS cI cZ cJ q0 q1 q2 q3 q4 q5 q6 q7 q8 x_slots x_built y_b_sw x_folding_on y_a_starts y_a_lengths a_overlaps y_x_area_length y_a_area_bytes y_x_spare_length y_a_spare_bytes) (va_A (wS cI cZ cJ q0 q1 q2 q3 q4 q5 q6 q7 q8 x_slots x_built b_sw x_folding_on a_starts a_lengths a_overlaps x_area_length a_area_bytes x_spare_length a_spare_bytes) sz)) 0 0 (va_A (wS cI cZ cJ q0 q1 q2 q3 q4 q5 q6 q7 q8 x_slots x_built b_sw x_folding_on a_starts a_lengths a_overlaps x_area_length a_area_bytes x_spare_length a_spare_bytes) sz) := by
  refine Met.ofW (cc := cX6_join) (maxL := 6) (ret := none) (by decide) rfl ?_
  intro p e s m args below meth c s₁ B hml hv
  obtain ⟨hav, hsz, hP, hK, hD0⟩ := hv
  have hx := B.exec
  have hb := B.bytes
  have hr := B.returns
  have hts := atoms_spec (ws := wsX6_join) B.pre
  have hown : s.vm.findClass RX6 = some m.cls := findClass_of_methodNamed B.named
  have hlk := B.notSynchronized
  have hf22 : (Cond.fieldLink RX6 22 "KeywordMatcher$Superstring" "overlaps" "[I").before args s = true := hts _ (List.mem_of_getElem? (i := 1) rfl)
  have hiX6 : ∀ w ∈ wsX60, w ∈ wsX6_join := fun w h => List.mem_cons_of_mem _ (List.mem_append_left _ (List.mem_append_right _ h))
  have hf15 : (Cond.fieldLink RX6 15 "KeywordMatcher$Superstring" "starts" "[I").before args s = true := hts _ (List.mem_of_getElem? (i := 2) rfl)
  have hf19 : (Cond.fieldLink RX6 19 "KeywordMatcher$Superstring" "lengths" "[I").before args s = true := hts _ (List.mem_of_getElem? (i := 3) rfl)
  subst hsz
  have hD := hD0.self (sz := s.heap.size)
  generalize hAe : va_A (wS cI cZ cJ q0 q1 q2 q3 q4 q5 q6 q7 q8 x_slots x_built b_sw x_folding_on a_starts a_lengths a_overlaps x_area_length a_area_bytes x_spare_length a_spare_bytes) s.heap.size = Az at hD ⊢
  have hA : ∀ q : Nat, s.heap.size ≤ q → Az q := fun q h => by rw [← hAe]; exact Or.inr h
  clear hAe
  have hSz : va_S Az s.heap s.heap [] := va_S.rf
  obtain ⟨wz, hw1⟩ : ∃ z : va_W, z = (wS cI cZ cJ q0 q1 q2 q3 q4 q5 q6 q7 q8 x_slots x_built y_b_sw x_folding_on y_a_starts y_a_lengths a_overlaps y_x_area_length y_a_area_bytes y_x_spare_length y_a_spare_bytes) := ⟨_, rfl⟩
  rw [← hw1]
  have hl := lv_entry ([.ref q0, .int (iI pz1), .int (iI pz2)]) (n := 6) (Nat.le_of_ble_eq_true rfl)
  rw [show entryFrame m args 6 = entryFrame m ([.ref q0, .int (iI pz1), .int (iI pz2)] : List Value).toArray 6 from by rw [hav], lg_entry_eq]
  generalize (lg_sl ([.ref q0, .int (iI pz1), .int (iI pz2)]) ++ List.replicate (6 - (lg_sl ([.ref q0, .int (iI pz1), .int (iI pz2)])).length) Slot.unset).toArray = ls at hl ⊢
  have hl : lv_has ls 6 [(0, .ref q0), (1, .int (iI pz1)), (2, .int (iI pz2))] := hl
  unfold s_X6_join at hs
  refine (?_ : ∀ (Hz : Heap) (lz : List Loc), va_P D vwCl (wS cI cZ cJ q0 q1 q2 q3 q4 q5 q6 q7 q8 x_slots x_built b_sw x_folding_on a_starts a_lengths a_overlaps x_area_length a_area_bytes x_spare_length a_spare_bytes) Hz → va_D Az (wS cI cZ cJ q0 q1 q2 q3 q4 q5 q6 q7 q8 x_slots x_built b_sw x_folding_on a_starts a_lengths a_overlaps x_area_length a_area_bytes x_spare_length a_spare_bytes) → va_S Az s.heap Hz lz → W p l e (headSpec wsX6_join rm_X6_join).room s m args below meth c Hz lz 0 0 (MQ below (QW D vwCl none wz Az) args s 0 0 Az) (F0 m 0 ls [])) s.heap [] hP hD hSz
  intro Hz lz hP hD hSz
  refine lv_aload_n hx hb dX6_join_0 rfl (lv_at hl 0 rfl) ?_
  refine va_get (ci := 6) (v := .ref q4) (C := RX6) (T := TX6) (N := 8) hx hb hts hiX6 hown hK hP 0 rfl rfl 3 (by decide) hf22 (fun _ h9 => h9) rfl dX6_join_1 ?_
  refine lv_iload_n hx hb dX6_join_4 rfl (lv_at hl 1 rfl) ?_
  refine k_bipush (n := 40) hx hb (by decide) dX6_join_5 ?_
  refine k_imul hx hb dX6_join_7 ?_
  refine lv_iload_n hx hb dX6_join_8 rfl (lv_at hl 2 rfl) ?_
  refine k_iadd hx hb dX6_join_9 ?_
  refine k_iald hx hb hK hP 4 0 rfl rfl (Nat.le_of_ble_eq_true rfl) hs dX6_join_10 (fun vz1 hs => ?_)
  refine lv_istore_n (lv' := [(3, .int (iI vz1)), (0, .ref q0), (1, .int (iI pz1)), (2, .int (iI pz2))]) hx hb dX6_join_11 rfl hl (by decide) rfl (fun ls hl => ?_)
  refine lv_aload_n hx hb dX6_join_12 rfl (lv_at hl 1 rfl) ?_
  refine va_get (ci := 6) (v := .ref q2) (C := RX6) (T := TX6) (N := 8) hx hb hts hiX6 hown hK hP 0 rfl rfl 1 (by decide) hf15 (fun _ h9 => h9) rfl dX6_join_13 ?_
  refine lv_iload_n hx hb dX6_join_16 rfl (lv_at hl 3 rfl) ?_
  refine k_iald hx hb hK hP 2 0 rfl rfl (Nat.le_of_ble_eq_true rfl) hs dX6_join_17 (fun vz2 hs => ?_)
  refine lv_iload_n hx hb dX6_join_18 rfl (lv_at hl 0 rfl) ?_
  refine k_iadd hx hb dX6_join_19 ?_
  refine lv_istore (lv' := [(4, .int (iI (vz2 + vz1))), (3, .int (iI vz1)), (0, .ref q0), (1, .int (iI pz1)), (2, .int (iI pz2))]) hx hb dX6_join_20 hl (by decide) rfl (fun ls hl => ?_)
  refine lv_aload_n hx hb dX6_join_22 rfl (lv_at hl 2 rfl) ?_
  refine va_get (ci := 6) (v := .ref q3) (C := RX6) (T := TX6) (N := 8) hx hb hts hiX6 hown hK hP 0 rfl rfl 2 (by decide) hf19 (fun _ h9 => h9) rfl dX6_join_23 ?_
  refine lv_iload_n hx hb dX6_join_26 rfl (lv_at hl 4 rfl) ?_
  refine k_iald hx hb hK hP 3 0 rfl rfl (Nat.le_of_ble_eq_true rfl) hs dX6_join_27 (fun vz3 hs => ?_)
  refine lv_iload_n hx hb dX6_join_28 rfl (lv_at hl 1 rfl) ?_
  refine k_isub hx hb dX6_join_29 ?_
  refine lv_istore (lv' := [(5, .int (iI (vz3 - vz1))), (4, .int (iI (vz2 + vz1))), (3, .int (iI vz1)), (0, .ref q0), (1, .int (iI pz1)), (2, .int (iI pz2))]) hx hb dX6_join_30 hl (by decide) rfl (fun ls hl => ?_)
  refine lv_aload_n hx hb dX6_join_32 rfl (lv_at hl 3 rfl) ?_
  refine va_get (ci := 6) (v := .ref q3) (C := RX6) (T := TX6) (N := 8) hx hb hts hiX6 hown hK hP 0 rfl rfl 2 (by decide) hf19 (fun _ h9 => h9) rfl dX6_join_33 ?_
  refine lv_iload_n hx hb dX6_join_36 rfl (lv_at hl 5 rfl) ?_
  refine k_iconst (n := 0) hx hb dX6_join_37 ?_
  refine k_iast hx hb hK hP hD hSz 3 0 rfl rfl (Nat.le_of_ble_eq_true rfl) hs dX6_join_38 (fun Hz lz hP hD hSz hs => ?_)
  have hP : va_P D vwCl (wS cI cZ cJ q0 q1 q2 q3 q4 q5 q6 q7 q8 x_slots x_built b_sw x_folding_on a_starts (upA a_lengths pz2 0) a_overlaps x_area_length a_area_bytes x_spare_length a_spare_bytes) Hz := hP
  have hD : va_D Az (wS cI cZ cJ q0 q1 q2 q3 q4 q5 q6 q7 q8 x_slots x_built b_sw x_folding_on a_starts (upA a_lengths pz2 0) a_overlaps x_area_length a_area_bytes x_spare_length a_spare_bytes) := hD
  refine lv_aload_n hx hb dX6_join_39 rfl (lv_at hl 3 rfl) ?_
  refine lv_iload_n hx hb dX6_join_40 rfl (lv_at hl 4 rfl) ?_
  refine lv_iload hx hb dX6_join_41 (lv_at hl 1 rfl) ?_
  refine lv_iload hx hb dX6_join_43 (lv_at hl 0 rfl) ?_
  obtain ⟨vz4, vz5, vz6, vz7, vz8, vz9, vz10, hcz, hs⟩ := bd7_some hs
  refine k_wV (As := [.int (iI pz1), .int (iI (vz2 + vz1)), .int (iI (vz3 - vz1))]) (rest := []) (st1 := []) (wc := (wS cI cZ cJ q0 q1 q2 q3 q4 q5 q6 q7 q8 x_slots x_built b_sw x_folding_on a_starts (upA a_lengths pz2 0) a_overlaps x_area_length a_area_bytes x_spare_length a_spare_bytes)) (w1 := (wS cI cZ cJ q0 q1 q2 q3 q4 q5 q6 q7 q8 x_slots x_built vz4 x_folding_on vz5 vz6 a_overlaps vz7 vz8 vz9 vz10)) ⟨hx, hb, hml, hown, hts⟩ hK hP hD hSz hA [0, 1, 2, 3, 4, 5, 6, 7, 8] rfl (by decide) (c_X6_layOut l D cI cZ cJ hcz) (cwV 3 hts gX6_join_X6_layOut rfl rfl rfl (by decide +kernel) ⟨Nat.le_of_ble_eq_true rfl, Nat.le_of_ble_eq_true rfl⟩) 0 rfl rfl rfl rfl rfl hl.1 rfl (lv_room (Nat.le_of_ble_eq_true rfl)) dX6_join_45 ⟨Nat.zero_le _, Nat.zero_le _⟩ rfl (fun Hz lz hP hD hSz => ?_)
  have hP : va_P D vwCl (wS cI cZ cJ q0 q1 q2 q3 q4 q5 q6 q7 q8 x_slots x_built vz4 x_folding_on vz5 vz6 a_overlaps vz7 vz8 vz9 vz10) Hz := hP
  have hD : va_D Az (wS cI cZ cJ q0 q1 q2 q3 q4 q5 q6 q7 q8 x_slots x_built vz4 x_folding_on vz5 vz6 a_overlaps vz7 vz8 vz9 vz10) := hD
  cases hs
  exact k_vret_w hx hb hr hlk (by rw [hw1]; exact hP) hSz dX6_join_48 rfl
/-! X6_build -/
noncomputable def s_X6_build_15 (fu : Nat) : Int → Int → (Int → Int) → (Int → Int) → (Int → Int) → (Int → Int) → Int → Option ((Int → Int)) := Nat.rec (motive := fun _ => Int → Int → (Int → Int) → (Int → Int) → (Int → Int) → (Int → Int) → Int → Option ((Int → Int))) (fun _ _ _ _ _ _ _ => none) (fun _ ih x_slots x_folding_on a_starts a_lengths a_overlaps a_area_bytes l2 => cLt l2 x_slots (bd1 (s_X6_measureOverlaps x_folding_on a_starts a_lengths a_overlaps a_area_bytes l2 l2) (fun vz6 => ih x_slots x_folding_on a_starts a_lengths vz6 a_area_bytes (l2 + 1))) (some a_overlaps)) fu
theorem s_X6_build_15_s (fu : Nat) (x_slots : Int) (x_folding_on : Int) (a_starts : (Int → Int)) (a_lengths : (Int → Int)) (a_overlaps : (Int → Int)) (a_area_bytes : (Int → Int)) (l2 : Int) : s_X6_build_15 (fu + 1) x_slots x_folding_on a_starts a_lengths a_overlaps a_area_bytes l2 = (cLt l2 x_slots (bd1 (s_X6_measureOverlaps x_folding_on a_starts a_lengths a_overlaps a_area_bytes l2 l2) (fun vz6 => (s_X6_build_15 fu) x_slots x_folding_on a_starts a_lengths vz6 a_area_bytes (l2 + 1))) (some a_overlaps)) := rfl
theorem s_X6_build_15_z (x_slots : Int) (x_folding_on : Int) (a_starts : (Int → Int)) (a_lengths : (Int → Int)) (a_overlaps : (Int → Int)) (a_area_bytes : (Int → Int)) (l2 : Int) : s_X6_build_15 0 x_slots x_folding_on a_starts a_lengths a_overlaps a_area_bytes l2 = none := rfl
noncomputable def s_X6_build_37 (fu : Nat) : Int → Bool → Int → (Int → Int) → (Int → Int) → (Int → Int) → Int → (Int → Int) → Int → (Int → Int) → Int → Option (Bool × (Int → Int) × (Int → Int) × (Int → Int) × Int × (Int → Int) × Int × (Int → Int)) := Nat.rec (motive := fun _ => Int → Bool → Int → (Int → Int) → (Int → Int) → (Int → Int) → Int → (Int → Int) → Int → (Int → Int) → Int → Option (Bool × (Int → Int) × (Int → Int) × (Int → Int) × Int × (Int → Int) × Int × (Int → Int))) (fun _ _ _ _ _ _ _ _ _ _ _ => none) (fun _ ih x_slots b_sw x_folding_on a_starts a_lengths a_overlaps x_area_length a_area_bytes x_spare_length a_spare_bytes l2 => cLt l2 x_slots (bd1 (s_X6_widestPair x_slots a_lengths a_overlaps) (fun vz8 => cEq vz8 (-1) (ih x_slots b_sw x_folding_on a_starts a_lengths a_overlaps x_area_length a_area_bytes x_spare_length a_spare_bytes (l2 + 1)) (bd7 (s_X6_join x_slots b_sw a_starts a_lengths a_overlaps x_area_length a_area_bytes x_spare_length a_spare_bytes (iDiv vz8 40) (iRem vz8 40)) (fun vz9 vz10 vz11 vz12 vz13 vz14 vz15 => bd1 (s_X6_measureOverlaps x_folding_on vz10 vz11 a_overlaps vz13 (iDiv vz8 40) x_slots) (fun vz16 => ih x_slots vz9 x_folding_on vz10 vz11 vz16 vz12 vz13 vz14 vz15 (l2 + 1)))))) (some (b_sw, a_starts, a_lengths, a_overlaps, x_area_length, a_area_bytes, x_spare_length, a_spare_bytes))) fu
theorem s_X6_build_37_s (fu : Nat) (x_slots : Int) (b_sw : Bool) (x_folding_on : Int) (a_starts : (Int → Int)) (a_lengths : (Int → Int)) (a_overlaps : (Int → Int)) (x_area_length : Int) (a_area_bytes : (Int → Int)) (x_spare_length : Int) (a_spare_bytes : (Int → Int)) (l2 : Int) : s_X6_build_37 (fu + 1) x_slots b_sw x_folding_on a_starts a_lengths a_overlaps x_area_length a_area_bytes x_spare_length a_spare_bytes l2 = (cLt l2 x_slots (bd1 (s_X6_widestPair x_slots a_lengths a_overlaps) (fun vz8 => cEq vz8 (-1) (s_X6_build_37 fu x_slots b_sw x_folding_on a_starts a_lengths a_overlaps x_area_length a_area_bytes x_spare_length a_spare_bytes (l2 + 1)) (bd7 (s_X6_join x_slots b_sw a_starts a_lengths a_overlaps x_area_length a_area_bytes x_spare_length a_spare_bytes (iDiv vz8 40) (iRem vz8 40)) (fun vz9 vz10 vz11 vz12 vz13 vz14 vz15 => bd1 (s_X6_measureOverlaps x_folding_on vz10 vz11 a_overlaps vz13 (iDiv vz8 40) x_slots) (fun vz16 => (s_X6_build_37 fu) x_slots vz9 x_folding_on vz10 vz11 vz16 vz12 vz13 vz14 vz15 (l2 + 1)))))) (some (b_sw, a_starts, a_lengths, a_overlaps, x_area_length, a_area_bytes, x_spare_length, a_spare_bytes))) := rfl
theorem s_X6_build_37_z (x_slots : Int) (b_sw : Bool) (x_folding_on : Int) (a_starts : (Int → Int)) (a_lengths : (Int → Int)) (a_overlaps : (Int → Int)) (x_area_length : Int) (a_area_bytes : (Int → Int)) (x_spare_length : Int) (a_spare_bytes : (Int → Int)) (l2 : Int) : s_X6_build_37 0 x_slots b_sw x_folding_on a_starts a_lengths a_overlaps x_area_length a_area_bytes x_spare_length a_spare_bytes l2 = none := rfl
noncomputable def s_X6_build (x_slots : Int) (x_built : Int) (b_sw : Bool) (x_folding_on : Int) (a_starts : (Int → Int)) (a_lengths : (Int → Int)) (a_overlaps : (Int → Int)) (x_area_length : Int) (a_area_bytes : (Int → Int)) (x_spare_length : Int) (a_spare_bytes : (Int → Int)) (x_arg0_given : Int) (a_arg0_bytes : (Int → Int)) (a_arg0_lengths : (Int → Int)) (a_arg0_lives : (Int → Int)) : Option (Int × Int × Bool × (Int → Int) × (Int → Int) × (Int → Int) × Int × (Int → Int) × Int × (Int → Int)) := cEq x_built 0 (bd5 (s_X6_collect x_slots x_folding_on a_starts a_lengths x_area_length a_area_bytes x_arg0_given a_arg0_bytes a_arg0_lengths a_arg0_lives) (fun vz1 vz2 vz3 vz4 vz5 => bd1 (s_X6_build_15 FU vz1 x_folding_on vz2 vz3 a_overlaps vz5 0) (fun ez7 => bd8 (s_X6_build_37 FU vz1 b_sw x_folding_on vz2 vz3 ez7 vz4 vz5 x_spare_length a_spare_bytes 1) (fun ez17 ez18 ez19 ez20 ez21 ez22 ez23 ez24 => some (vz1, 1, ez17, ez18, ez19, ez20, ez21, ez22, ez23, ez24))))) (some (x_slots, x_built, b_sw, a_starts, a_lengths, a_overlaps, x_area_length, a_area_bytes, x_spare_length, a_spare_bytes))
def rm_X6_build : Room := { frames := 5, cells := 0, slots := 0, locals := 123 }
set_option maxHeartbeats 4000000 in
set_option maxRecDepth 100000 in
theorem c_X6_build (l : Launch) (D : va_G) (cI cZ cJ : ClassId) {q0 q1 q2 q3 q4 q5 q6 q7 q8 q9 q10 q11 q12 q13 : Nat} {x_slots : Int} {x_built : Int} {b_sw : Bool} {x_folding_on : Int} {a_starts : (Int → Int)} {a_lengths : (Int → Int)} {a_overlaps : (Int → Int)} {x_area_length : Int} {a_area_bytes : (Int → Int)} {x_spare_length : Int} {a_spare_bytes : (Int → Int)} {x_arg0_given : Int} {x_arg0_alive : Int} {a_arg0_bytes : (Int → Int)} {a_arg0_lengths : (Int → Int)} {a_arg0_weights : (Int → Int)} {a_arg0_lives : (Int → Int)} {y_x_slots : Int} {y_x_built : Int} {y_b_sw : Bool} {y_a_starts : (Int → Int)} {y_a_lengths : (Int → Int)} {y_a_overlaps : (Int → Int)} {y_x_area_length : Int} {y_a_area_bytes : (Int → Int)} {y_x_spare_length : Int} {y_a_spare_bytes : (Int → Int)} {sz : Nat} (hs : s_X6_build x_slots x_built b_sw x_folding_on a_starts a_lengths a_overlaps x_area_length a_area_bytes x_spare_length a_spare_bytes x_arg0_given a_arg0_bytes a_arg0_lengths a_arg0_lives = some (y_x_slots, y_x_built, y_b_sw, y_a_starts, y_a_lengths, y_a_overlaps, y_x_area_length, y_a_area_bytes, y_x_spare_length, y_a_spare_bytes)) : Met l yX6_build wsX6_build rm_X6_build (PW D vwCl [(cI, .int), (cZ, .boolean), (cJ, .long)] [.ref q0, .ref q9] (wSK cI cZ cJ q0 q1 q2 q3 q4 q5 q6 q7 q8 q9 q10 q11 q12 q13 x_slots x_built b_sw x_folding_on a_starts a_lengths a_overlaps x_area_length a_area_bytes x_spare_length a_spare_bytes x_arg0_given x_arg0_alive a_arg0_bytes a_arg0_lengths a_arg0_weights a_arg0_lives) sz) (QW D vwCl none (wSK cI cZ cJ q0 q1 q2 q3 q4 q5 q6 q7 q8 q9 q10 q11 q12 q13 y_x_slots y_x_built y_b_sw x_folding_on y_a_starts y_a_lengths y_a_overlaps y_x_area_length y_a_area_bytes y_x_spare_length y_a_spare_bytes x_arg0_given x_arg0_alive a_arg0_bytes a_arg0_lengths a_arg0_weights a_arg0_lives) (va_A (wSK cI cZ cJ q0 q1 q2 q3 q4 q5 q6 q7 q8 q9 q10 q11 q12 q13 x_slots x_built b_sw x_folding_on a_starts a_lengths a_overlaps x_area_length a_area_bytes x_spare_length a_spare_bytes x_arg0_given x_arg0_alive a_arg0_bytes a_arg0_lengths a_arg0_weights a_arg0_lives) sz)) 0 0 (va_A (wSK cI cZ cJ q0 q1 q2 q3 q4 q5 q6 q7 q8 q9 q10 q11 q12 q13 x_slots x_built b_sw x_folding_on a_starts a_lengths a_overlaps x_area_length a_area_bytes x_spare_length a_spare_bytes x_arg0_given x_arg0_alive a_arg0_bytes a_arg0_lengths a_arg0_weights a_arg0_lives) sz) := by
  refine Met.ofW (cc := cX6_build) (maxL := 4) (ret := none) (by decide) rfl ?_
  intro p e s m args below meth c s₁ B hml hv
  obtain ⟨hav, hsz, hP, hK, hD0⟩ := hv
  have hx := B.exec
  have hb := B.bytes
  have hr := B.returns
  have hts := atoms_spec (ws := wsX6_build) B.pre
  have hown : s.vm.findClass RX6 = some m.cls := findClass_of_methodNamed B.named
  have hlk := B.notSynchronized
  have hf41 : (Cond.fieldLink RX6 41 "KeywordMatcher$Superstring" "built" "Z").before args s = true := hts _ (List.mem_of_getElem? (i := 1) rfl)
  have hiX6 : ∀ w ∈ wsX60, w ∈ wsX6_build := fun w h => List.mem_cons_of_mem _ (List.mem_append_left _ (List.mem_append_left _ (List.mem_append_left _ (List.mem_append_right _ h))))
  have hf37 : (Cond.fieldLink RX6 37 "KeywordMatcher$Superstring" "slots" "I").before args s = true := hts _ (List.mem_of_getElem? (i := 2) rfl)
  subst hsz
  have hD := hD0.self (sz := s.heap.size)
  generalize hAe : va_A (wSK cI cZ cJ q0 q1 q2 q3 q4 q5 q6 q7 q8 q9 q10 q11 q12 q13 x_slots x_built b_sw x_folding_on a_starts a_lengths a_overlaps x_area_length a_area_bytes x_spare_length a_spare_bytes x_arg0_given x_arg0_alive a_arg0_bytes a_arg0_lengths a_arg0_weights a_arg0_lives) s.heap.size = Az at hD ⊢
  have hA : ∀ q : Nat, s.heap.size ≤ q → Az q := fun q h => by rw [← hAe]; exact Or.inr h
  clear hAe
  have hSz : va_S Az s.heap s.heap [] := va_S.rf
  obtain ⟨wz, hw1⟩ : ∃ z : va_W, z = (wSK cI cZ cJ q0 q1 q2 q3 q4 q5 q6 q7 q8 q9 q10 q11 q12 q13 y_x_slots y_x_built y_b_sw x_folding_on y_a_starts y_a_lengths y_a_overlaps y_x_area_length y_a_area_bytes y_x_spare_length y_a_spare_bytes x_arg0_given x_arg0_alive a_arg0_bytes a_arg0_lengths a_arg0_weights a_arg0_lives) := ⟨_, rfl⟩
  rw [← hw1]
  have hl := lv_entry ([.ref q0, .ref q9]) (n := 4) (Nat.le_of_ble_eq_true rfl)
  rw [show entryFrame m args 4 = entryFrame m ([.ref q0, .ref q9] : List Value).toArray 4 from by rw [hav], lg_entry_eq]
  generalize (lg_sl ([.ref q0, .ref q9]) ++ List.replicate (4 - (lg_sl ([.ref q0, .ref q9])).length) Slot.unset).toArray = ls at hl ⊢
  have hl : lv_has ls 4 [(0, .ref q0), (1, .ref q9)] := hl
  unfold s_X6_build at hs
  have Lz15 : ∀ (fu : Nat) (x_slots : Int) (x_built : Int) (b_sw : Bool) (a_starts : (Int → Int)) (a_lengths : (Int → Int)) (a_overlaps : (Int → Int)) (x_area_length : Int) (a_area_bytes : (Int → Int)) (x_spare_length : Int) (a_spare_bytes : (Int → Int)) (l2 : Int) (y0 : (Int → Int)), s_X6_build_15 fu x_slots x_folding_on a_starts a_lengths a_overlaps a_area_bytes l2 = some y0 → ∀ (Hz : Heap) (lz : List Loc), va_P D vwCl (wSK cI cZ cJ q0 q1 q2 q3 q4 q5 q6 q7 q8 q9 q10 q11 q12 q13 x_slots x_built b_sw x_folding_on a_starts a_lengths a_overlaps x_area_length a_area_bytes x_spare_length a_spare_bytes x_arg0_given x_arg0_alive a_arg0_bytes a_arg0_lengths a_arg0_weights a_arg0_lives) Hz → va_D Az (wSK cI cZ cJ q0 q1 q2 q3 q4 q5 q6 q7 q8 q9 q10 q11 q12 q13 x_slots x_built b_sw x_folding_on a_starts a_lengths a_overlaps x_area_length a_area_bytes x_spare_length a_spare_bytes x_arg0_given x_arg0_alive a_arg0_bytes a_arg0_lengths a_arg0_weights a_arg0_lives) → va_S Az s.heap Hz lz → ∀ ls : Array Slot, lv_has ls 4 [(0, .ref q0), (2, .int (iI l2))] → (∀ (Hz : Heap) (lz : List Loc), va_P D vwCl (wSK cI cZ cJ q0 q1 q2 q3 q4 q5 q6 q7 q8 q9 q10 q11 q12 q13 x_slots x_built b_sw x_folding_on a_starts a_lengths y0 x_area_length a_area_bytes x_spare_length a_spare_bytes x_arg0_given x_arg0_alive a_arg0_bytes a_arg0_lengths a_arg0_weights a_arg0_lives) Hz → va_D Az (wSK cI cZ cJ q0 q1 q2 q3 q4 q5 q6 q7 q8 q9 q10 q11 q12 q13 x_slots x_built b_sw x_folding_on a_starts a_lengths y0 x_area_length a_area_bytes x_spare_length a_spare_bytes x_arg0_given x_arg0_alive a_arg0_bytes a_arg0_lengths a_arg0_weights a_arg0_lives) → va_S Az s.heap Hz lz → ∀ ls : Array Slot, lv_has ls 4 [(0, .ref q0)] → W p l e (headSpec wsX6_build rm_X6_build).room s m args below meth c Hz lz 0 0 (MQ below (QW D vwCl none wz Az) args s 0 0 Az) (F0 m 35 ls [])) → W p l e (headSpec wsX6_build rm_X6_build).room s m args below meth c Hz lz 0 0 (MQ below (QW D vwCl none wz Az) args s 0 0 Az) (F0 m 15 ls []) := by
    intro fu
    induction fu with
    | zero => intro x_slots x_built b_sw a_starts a_lengths a_overlaps x_area_length a_area_bytes x_spare_length a_spare_bytes l2 y0 hs; cases hs
    | succ fu ih =>
      intro x_slots x_built b_sw a_starts a_lengths a_overlaps x_area_length a_area_bytes x_spare_length a_spare_bytes l2 y0 hs Hz lz hP hD hSz ls hl kx
      rw [s_X6_build_15_s] at hs
      refine lv_iload_n hx hb dX6_build_15 rfl (lv_at hl 1 rfl) ?_
      refine lv_aload_n hx hb dX6_build_16 rfl (lv_at hl 0 rfl) ?_
      refine va_get (ci := 6) (v := .int (iI x_slots)) (C := RX6) (T := TX6) (N := 8) hx hb hts hiX6 hown hK hP 0 rfl rfl 6 (by decide) hf37 (fun _ h9 => h9) rfl dX6_build_17 ?_
      refine k_icmp_ge (tgt := 35) hx hb hs dX6_build_20 (by decide) (fun hs => ?_) (fun hs => ?_)
      · refine lv_aload_n hx hb dX6_build_23 rfl (lv_at hl 0 rfl) ?_
        refine lv_iload_n hx hb dX6_build_24 rfl (lv_at hl 1 rfl) ?_
        refine lv_iload_n hx hb dX6_build_25 rfl (lv_at hl 1 rfl) ?_
        obtain ⟨vz6, hcz, hs⟩ := bd1_some hs
        refine k_wV (As := [.int (iI l2), .int (iI l2)]) (rest := []) (st1 := []) (wc := (wS cI cZ cJ q0 q1 q2 q3 q4 q5 q6 q7 q8 x_slots x_built b_sw x_folding_on a_starts a_lengths a_overlaps x_area_length a_area_bytes x_spare_length a_spare_bytes)) (w1 := (wS cI cZ cJ q0 q1 q2 q3 q4 q5 q6 q7 q8 x_slots x_built b_sw x_folding_on a_starts a_lengths vz6 x_area_length a_area_bytes x_spare_length a_spare_bytes)) ⟨hx, hb, hml, hown, hts⟩ hK hP hD hSz hA [0, 1, 2, 3, 4, 5, 6, 7, 8] rfl (by decide) (c_X6_measureOverlaps l D cI cZ cJ hcz) (cwV 2 hts gX6_build_X6_measureOverlaps rfl rfl rfl (by decide +kernel) ⟨Nat.le_of_ble_eq_true rfl, Nat.le_of_ble_eq_true rfl⟩) 0 rfl rfl rfl rfl rfl hl.1 rfl (lv_room (Nat.le_of_ble_eq_true rfl)) dX6_build_26 ⟨Nat.zero_le _, Nat.zero_le _⟩ rfl (fun Hz lz hP hD hSz => ?_)
        have hP : va_P D vwCl (wSK cI cZ cJ q0 q1 q2 q3 q4 q5 q6 q7 q8 q9 q10 q11 q12 q13 x_slots x_built b_sw x_folding_on a_starts a_lengths vz6 x_area_length a_area_bytes x_spare_length a_spare_bytes x_arg0_given x_arg0_alive a_arg0_bytes a_arg0_lengths a_arg0_weights a_arg0_lives) Hz := hP
        have hD : va_D Az (wSK cI cZ cJ q0 q1 q2 q3 q4 q5 q6 q7 q8 q9 q10 q11 q12 q13 x_slots x_built b_sw x_folding_on a_starts a_lengths vz6 x_area_length a_area_bytes x_spare_length a_spare_bytes x_arg0_given x_arg0_alive a_arg0_bytes a_arg0_lengths a_arg0_weights a_arg0_lives) := hD
        refine k_iinc (x := l2) (k := 1) (lv' := [(2, .int (iI (l2 + 1))), (0, .ref q0)]) hx hb dX6_build_29 hl rfl (by decide) rfl (fun ls hl => ?_)
        refine lv_goto (tgt := 15) hx hb dX6_build_32 (by decide) ?_
        exact ih x_slots x_built b_sw a_starts a_lengths vz6 x_area_length a_area_bytes x_spare_length a_spare_bytes (l2 + 1) y0 hs Hz lz hP hD hSz ls (lv_sub hl [1, 0] rfl) kx
      · cases hs
        exact kx Hz lz hP hD hSz ls (lv_sub hl [0] rfl)
  have Lz37 : ∀ (fu : Nat) (x_slots : Int) (x_built : Int) (b_sw : Bool) (a_starts : (Int → Int)) (a_lengths : (Int → Int)) (a_overlaps : (Int → Int)) (x_area_length : Int) (a_area_bytes : (Int → Int)) (x_spare_length : Int) (a_spare_bytes : (Int → Int)) (l2 : Int) (y0 : Bool) (y1 : (Int → Int)) (y2 : (Int → Int)) (y3 : (Int → Int)) (y4 : Int) (y5 : (Int → Int)) (y6 : Int) (y7 : (Int → Int)), s_X6_build_37 fu x_slots b_sw x_folding_on a_starts a_lengths a_overlaps x_area_length a_area_bytes x_spare_length a_spare_bytes l2 = some (y0, y1, y2, y3, y4, y5, y6, y7) → ∀ (Hz : Heap) (lz : List Loc), va_P D vwCl (wSK cI cZ cJ q0 q1 q2 q3 q4 q5 q6 q7 q8 q9 q10 q11 q12 q13 x_slots x_built b_sw x_folding_on a_starts a_lengths a_overlaps x_area_length a_area_bytes x_spare_length a_spare_bytes x_arg0_given x_arg0_alive a_arg0_bytes a_arg0_lengths a_arg0_weights a_arg0_lives) Hz → va_D Az (wSK cI cZ cJ q0 q1 q2 q3 q4 q5 q6 q7 q8 q9 q10 q11 q12 q13 x_slots x_built b_sw x_folding_on a_starts a_lengths a_overlaps x_area_length a_area_bytes x_spare_length a_spare_bytes x_arg0_given x_arg0_alive a_arg0_bytes a_arg0_lengths a_arg0_weights a_arg0_lives) → va_S Az s.heap Hz lz → ∀ ls : Array Slot, lv_has ls 4 [(0, .ref q0), (2, .int (iI l2))] → (∀ (Hz : Heap) (lz : List Loc), va_P D vwCl (wSK cI cZ cJ q0 q1 q2 q3 q4 q5 q6 q7 q8 q9 q10 q11 q12 q13 x_slots x_built y0 x_folding_on y1 y2 y3 y4 y5 y6 y7 x_arg0_given x_arg0_alive a_arg0_bytes a_arg0_lengths a_arg0_weights a_arg0_lives) Hz → va_D Az (wSK cI cZ cJ q0 q1 q2 q3 q4 q5 q6 q7 q8 q9 q10 q11 q12 q13 x_slots x_built y0 x_folding_on y1 y2 y3 y4 y5 y6 y7 x_arg0_given x_arg0_alive a_arg0_bytes a_arg0_lengths a_arg0_weights a_arg0_lives) → va_S Az s.heap Hz lz → ∀ ls : Array Slot, lv_has ls 4 [(0, .ref q0)] → W p l e (headSpec wsX6_build rm_X6_build).room s m args below meth c Hz lz 0 0 (MQ below (QW D vwCl none wz Az) args s 0 0 Az) (F0 m 85 ls [])) → W p l e (headSpec wsX6_build rm_X6_build).room s m args below meth c Hz lz 0 0 (MQ below (QW D vwCl none wz Az) args s 0 0 Az) (F0 m 37 ls []) := by
    intro fu
    induction fu with
    | zero => intro x_slots x_built b_sw a_starts a_lengths a_overlaps x_area_length a_area_bytes x_spare_length a_spare_bytes l2 y0 y1 y2 y3 y4 y5 y6 y7 hs; cases hs
    | succ fu ih =>
      intro x_slots x_built b_sw a_starts a_lengths a_overlaps x_area_length a_area_bytes x_spare_length a_spare_bytes l2 y0 y1 y2 y3 y4 y5 y6 y7 hs Hz lz hP hD hSz ls hl kx
      rw [s_X6_build_37_s] at hs
      refine lv_iload_n hx hb dX6_build_37 rfl (lv_at hl 1 rfl) ?_
      refine lv_aload_n hx hb dX6_build_38 rfl (lv_at hl 0 rfl) ?_
      refine va_get (ci := 6) (v := .int (iI x_slots)) (C := RX6) (T := TX6) (N := 8) hx hb hts hiX6 hown hK hP 0 rfl rfl 6 (by decide) hf37 (fun _ h9 => h9) rfl dX6_build_39 ?_
      refine k_icmp_ge (tgt := 85) hx hb hs dX6_build_42 (by decide) (fun hs => ?_) (fun hs => ?_)
      · refine lv_aload_n hx hb dX6_build_45 rfl (lv_at hl 0 rfl) ?_
        obtain ⟨vz8, hcz, hs⟩ := bd1_some hs
        have hPc : va_P D vwCl (wS cI cZ cJ q0 q1 q2 q3 q4 q5 q6 q7 q8 x_slots x_built b_sw x_folding_on a_starts a_lengths a_overlaps x_area_length a_area_bytes x_spare_length a_spare_bytes) Hz := hP.sub [0, 1, 2, 3, 4, 5, 6, 7, 8] rfl
        refine k_rV (As := []) (rest := []) (st1 := [.int (iI vz8)]) ⟨hx, hb, hml, hown, hts⟩ hK hPc (c_X6_widestPair l D cI cZ cJ hcz) (cwV 0 hts gX6_build_X6_widestPair rfl rfl rfl (by decide +kernel) ⟨Nat.le_of_ble_eq_true rfl, Nat.le_of_ble_eq_true rfl⟩) 0 rfl rfl rfl rfl hl.1 rfl (lv_room (Nat.le_of_ble_eq_true rfl)) dX6_build_46 ⟨Nat.zero_le _, Nat.zero_le _⟩ rfl ?_
        refine lv_istore_n (lv' := [(3, .int (iI vz8)), (0, .ref q0), (2, .int (iI l2))]) hx hb dX6_build_49 rfl hl (by decide) rfl (fun ls hl => ?_)
        refine lv_iload_n hx hb dX6_build_50 rfl (lv_at hl 0 rfl) ?_
        refine k_iconst (n := (-1)) hx hb dX6_build_51 ?_
        refine k_icmp_eq (tgt := 79) hx hb hs dX6_build_52 (by decide) (fun hs => ?_) (fun hs => ?_)
        · refine k_iinc (x := l2) (k := 2) (lv' := [(2, .int (iI (l2 + 1))), (3, .int (iI vz8)), (0, .ref q0)]) hx hb dX6_build_79 hl rfl (by decide) rfl (fun ls hl => ?_)
          refine lv_goto (tgt := 37) hx hb dX6_build_82 (by decide) ?_
          exact ih x_slots x_built b_sw a_starts a_lengths a_overlaps x_area_length a_area_bytes x_spare_length a_spare_bytes (l2 + 1) y0 y1 y2 y3 y4 y5 y6 y7 hs Hz lz hP hD hSz ls (lv_sub hl [2, 0] rfl) kx
        · refine lv_aload_n hx hb dX6_build_55 rfl (lv_at hl 1 rfl) ?_
          refine lv_iload_n hx hb dX6_build_56 rfl (lv_at hl 0 rfl) ?_
          refine k_bipush (n := 40) hx hb (by decide) dX6_build_57 ?_
          refine k_idiv hx hb dX6_build_59 (by decide) ?_
          refine lv_iload_n hx hb dX6_build_60 rfl (lv_at hl 0 rfl) ?_
          refine k_bipush (n := 40) hx hb (by decide) dX6_build_61 ?_
          refine k_irem hx hb dX6_build_63 (by decide) ?_
          obtain ⟨vz9, vz10, vz11, vz12, vz13, vz14, vz15, hcz, hs⟩ := bd7_some hs
          refine k_wV (As := [.int (iI (iDiv vz8 40)), .int (iI (iRem vz8 40))]) (rest := []) (st1 := []) (wc := (wS cI cZ cJ q0 q1 q2 q3 q4 q5 q6 q7 q8 x_slots x_built b_sw x_folding_on a_starts a_lengths a_overlaps x_area_length a_area_bytes x_spare_length a_spare_bytes)) (w1 := (wS cI cZ cJ q0 q1 q2 q3 q4 q5 q6 q7 q8 x_slots x_built vz9 x_folding_on vz10 vz11 a_overlaps vz12 vz13 vz14 vz15)) ⟨hx, hb, hml, hown, hts⟩ hK hP hD hSz hA [0, 1, 2, 3, 4, 5, 6, 7, 8] rfl (by decide) (c_X6_join l D cI cZ cJ hcz) (cwV 2 hts gX6_build_X6_join rfl rfl rfl (by decide +kernel) ⟨Nat.le_of_ble_eq_true rfl, Nat.le_of_ble_eq_true rfl⟩) 0 rfl rfl rfl rfl rfl hl.1 rfl (lv_room (Nat.le_of_ble_eq_true rfl)) dX6_build_64 ⟨Nat.zero_le _, Nat.zero_le _⟩ rfl (fun Hz lz hP hD hSz => ?_)
          have hP : va_P D vwCl (wSK cI cZ cJ q0 q1 q2 q3 q4 q5 q6 q7 q8 q9 q10 q11 q12 q13 x_slots x_built vz9 x_folding_on vz10 vz11 a_overlaps vz12 vz13 vz14 vz15 x_arg0_given x_arg0_alive a_arg0_bytes a_arg0_lengths a_arg0_weights a_arg0_lives) Hz := hP
          have hD : va_D Az (wSK cI cZ cJ q0 q1 q2 q3 q4 q5 q6 q7 q8 q9 q10 q11 q12 q13 x_slots x_built vz9 x_folding_on vz10 vz11 a_overlaps vz12 vz13 vz14 vz15 x_arg0_given x_arg0_alive a_arg0_bytes a_arg0_lengths a_arg0_weights a_arg0_lives) := hD
          refine lv_aload_n hx hb dX6_build_67 rfl (lv_at hl 1 rfl) ?_
          refine lv_iload_n hx hb dX6_build_68 rfl (lv_at hl 0 rfl) ?_
          refine k_bipush (n := 40) hx hb (by decide) dX6_build_69 ?_
          refine k_idiv hx hb dX6_build_71 (by decide) ?_
          refine lv_aload_n hx hb dX6_build_72 rfl (lv_at hl 1 rfl) ?_
          refine va_get (ci := 6) (v := .int (iI x_slots)) (C := RX6) (T := TX6) (N := 8) hx hb hts hiX6 hown hK hP 0 rfl rfl 6 (by decide) hf37 (fun _ h9 => h9) rfl dX6_build_73 ?_
          obtain ⟨vz16, hcz, hs⟩ := bd1_some hs
          refine k_wV (As := [.int (iI (iDiv vz8 40)), .int (iI x_slots)]) (rest := []) (st1 := []) (wc := (wS cI cZ cJ q0 q1 q2 q3 q4 q5 q6 q7 q8 x_slots x_built vz9 x_folding_on vz10 vz11 a_overlaps vz12 vz13 vz14 vz15)) (w1 := (wS cI cZ cJ q0 q1 q2 q3 q4 q5 q6 q7 q8 x_slots x_built vz9 x_folding_on vz10 vz11 vz16 vz12 vz13 vz14 vz15)) ⟨hx, hb, hml, hown, hts⟩ hK hP hD hSz hA [0, 1, 2, 3, 4, 5, 6, 7, 8] rfl (by decide) (c_X6_measureOverlaps l D cI cZ cJ hcz) (cwV 2 hts gX6_build_X6_measureOverlaps rfl rfl rfl (by decide +kernel) ⟨Nat.le_of_ble_eq_true rfl, Nat.le_of_ble_eq_true rfl⟩) 0 rfl rfl rfl rfl rfl hl.1 rfl (lv_room (Nat.le_of_ble_eq_true rfl)) dX6_build_76 ⟨Nat.zero_le _, Nat.zero_le _⟩ rfl (fun Hz lz hP hD hSz => ?_)
          have hP : va_P D vwCl (wSK cI cZ cJ q0 q1 q2 q3 q4 q5 q6 q7 q8 q9 q10 q11 q12 q13 x_slots x_built vz9 x_folding_on vz10 vz11 vz16 vz12 vz13 vz14 vz15 x_arg0_given x_arg0_alive a_arg0_bytes a_arg0_lengths a_arg0_weights a_arg0_lives) Hz := hP
          have hD : va_D Az (wSK cI cZ cJ q0 q1 q2 q3 q4 q5 q6 q7 q8 q9 q10 q11 q12 q13 x_slots x_built vz9 x_folding_on vz10 vz11 vz16 vz12 vz13 vz14 vz15 x_arg0_given x_arg0_alive a_arg0_bytes a_arg0_lengths a_arg0_weights a_arg0_lives) := hD
          refine k_iinc (x := l2) (k := 2) (lv' := [(2, .int (iI (l2 + 1))), (3, .int (iI vz8)), (0, .ref q0)]) hx hb dX6_build_79 hl rfl (by decide) rfl (fun ls hl => ?_)
          refine lv_goto (tgt := 37) hx hb dX6_build_82 (by decide) ?_
          exact ih x_slots x_built vz9 vz10 vz11 vz16 vz12 vz13 vz14 vz15 (l2 + 1) y0 y1 y2 y3 y4 y5 y6 y7 hs Hz lz hP hD hSz ls (lv_sub hl [2, 0] rfl) kx
      · cases hs
        exact kx Hz lz hP hD hSz ls (lv_sub hl [0] rfl)
  refine (?_ : ∀ (Hz : Heap) (lz : List Loc), va_P D vwCl (wSK cI cZ cJ q0 q1 q2 q3 q4 q5 q6 q7 q8 q9 q10 q11 q12 q13 x_slots x_built b_sw x_folding_on a_starts a_lengths a_overlaps x_area_length a_area_bytes x_spare_length a_spare_bytes x_arg0_given x_arg0_alive a_arg0_bytes a_arg0_lengths a_arg0_weights a_arg0_lives) Hz → va_D Az (wSK cI cZ cJ q0 q1 q2 q3 q4 q5 q6 q7 q8 q9 q10 q11 q12 q13 x_slots x_built b_sw x_folding_on a_starts a_lengths a_overlaps x_area_length a_area_bytes x_spare_length a_spare_bytes x_arg0_given x_arg0_alive a_arg0_bytes a_arg0_lengths a_arg0_weights a_arg0_lives) → va_S Az s.heap Hz lz → W p l e (headSpec wsX6_build rm_X6_build).room s m args below meth c Hz lz 0 0 (MQ below (QW D vwCl none wz Az) args s 0 0 Az) (F0 m 0 ls [])) s.heap [] hP hD hSz
  intro Hz lz hP hD hSz
  refine lv_aload_n hx hb dX6_build_0 rfl (lv_at hl 0 rfl) ?_
  refine va_get (ci := 6) (v := .int (iI x_built)) (C := RX6) (T := TX6) (N := 8) hx hb hts hiX6 hown hK hP 0 rfl rfl 7 (by decide) hf41 (fun _ h9 => h9) rfl dX6_build_1 ?_
  refine k_if_eq (tgt := 8) hx hb hs dX6_build_4 (by decide) (fun hs => ?_) (fun hs => ?_)
  · refine lv_aload_n hx hb dX6_build_8 rfl (lv_at hl 0 rfl) ?_
    refine lv_aload_n hx hb dX6_build_9 rfl (lv_at hl 1 rfl) ?_
    obtain ⟨vz1, vz2, vz3, vz4, vz5, hcz, hs⟩ := bd5_some hs
    refine k_wV (As := [.ref q9]) (rest := []) (st1 := []) (wc := (wSK cI cZ cJ q0 q1 q2 q3 q4 q5 q6 q7 q8 q9 q10 q11 q12 q13 x_slots x_built b_sw x_folding_on a_starts a_lengths a_overlaps x_area_length a_area_bytes x_spare_length a_spare_bytes x_arg0_given x_arg0_alive a_arg0_bytes a_arg0_lengths a_arg0_weights a_arg0_lives)) (w1 := (wSK cI cZ cJ q0 q1 q2 q3 q4 q5 q6 q7 q8 q9 q10 q11 q12 q13 vz1 x_built b_sw x_folding_on vz2 vz3 a_overlaps vz4 vz5 x_spare_length a_spare_bytes x_arg0_given x_arg0_alive a_arg0_bytes a_arg0_lengths a_arg0_weights a_arg0_lives)) ⟨hx, hb, hml, hown, hts⟩ hK hP hD hSz hA [0, 1, 2, 3, 4, 5, 6, 7, 8, 9, 10, 11, 12, 13] rfl (by decide) (c_X6_collect l D cI cZ cJ hcz) (cwV 1 hts gX6_build_X6_collect rfl rfl rfl (by decide +kernel) ⟨Nat.le_of_ble_eq_true rfl, Nat.le_of_ble_eq_true rfl⟩) 0 rfl rfl rfl rfl rfl hl.1 rfl (lv_room (Nat.le_of_ble_eq_true rfl)) dX6_build_10 ⟨Nat.zero_le _, Nat.zero_le _⟩ rfl (fun Hz lz hP hD hSz => ?_)
    have hP : va_P D vwCl (wSK cI cZ cJ q0 q1 q2 q3 q4 q5 q6 q7 q8 q9 q10 q11 q12 q13 vz1 x_built b_sw x_folding_on vz2 vz3 a_overlaps vz4 vz5 x_spare_length a_spare_bytes x_arg0_given x_arg0_alive a_arg0_bytes a_arg0_lengths a_arg0_weights a_arg0_lives) Hz := hP
    have hD : va_D Az (wSK cI cZ cJ q0 q1 q2 q3 q4 q5 q6 q7 q8 q9 q10 q11 q12 q13 vz1 x_built b_sw x_folding_on vz2 vz3 a_overlaps vz4 vz5 x_spare_length a_spare_bytes x_arg0_given x_arg0_alive a_arg0_bytes a_arg0_lengths a_arg0_weights a_arg0_lives) := hD
    refine k_iconst (n := 0) hx hb dX6_build_13 ?_
    refine lv_istore_n (lv' := [(2, .int (iI 0)), (0, .ref q0), (1, .ref q9)]) hx hb dX6_build_14 rfl hl (by decide) rfl (fun ls hl => ?_)
    obtain ⟨ez7, hq, hs⟩ := bd1_some hs
    refine Lz15 FU vz1 x_built b_sw vz2 vz3 a_overlaps vz4 vz5 x_spare_length a_spare_bytes 0 ez7 hq Hz lz hP hD hSz ls (lv_sub hl [1, 0] rfl) ?_
    intro Hz lz hP hD hSz ls hl
    refine k_iconst (n := 1) hx hb dX6_build_35 ?_
    refine lv_istore_n (lv' := [(2, .int (iI 1)), (0, .ref q0)]) hx hb dX6_build_36 rfl hl (by decide) rfl (fun ls hl => ?_)
    obtain ⟨ez17, ez18, ez19, ez20, ez21, ez22, ez23, ez24, hq, hs⟩ := bd8_some hs
    refine Lz37 FU vz1 x_built b_sw vz2 vz3 ez7 vz4 vz5 x_spare_length a_spare_bytes 1 ez17 ez18 ez19 ez20 ez21 ez22 ez23 ez24 hq Hz lz hP hD hSz ls (lv_sub hl [1, 0] rfl) ?_
    intro Hz lz hP hD hSz ls hl
    refine lv_aload_n hx hb dX6_build_85 rfl (lv_at hl 0 rfl) ?_
    refine k_iconst (n := 1) hx hb dX6_build_86 ?_
    refine va_put (ci := 6) (v := .int (iI 1)) (ty := .boolean) (C := RX6) (T := TX6) (N := 8) hx hb hts hiX6 tyX6 tyX6_ok nmX6 hown hK hP hD hSz 0 rfl rfl 7 (by decide) hf41 (fun _ h9 => h9) rfl (by decide +kernel) (narZ (by decide)) rfl (Nat.le_of_ble_eq_true rfl) dX6_build_87 (fun Hz lz hP hD hSz => ?_)
    have hP : va_P D vwCl (wSK cI cZ cJ q0 q1 q2 q3 q4 q5 q6 q7 q8 q9 q10 q11 q12 q13 vz1 1 ez17 x_folding_on ez18 ez19 ez20 ez21 ez22 ez23 ez24 x_arg0_given x_arg0_alive a_arg0_bytes a_arg0_lengths a_arg0_weights a_arg0_lives) Hz := hP
    have hD : va_D Az (wSK cI cZ cJ q0 q1 q2 q3 q4 q5 q6 q7 q8 q9 q10 q11 q12 q13 vz1 1 ez17 x_folding_on ez18 ez19 ez20 ez21 ez22 ez23 ez24 x_arg0_given x_arg0_alive a_arg0_bytes a_arg0_lengths a_arg0_weights a_arg0_lives) := hD
    cases hs
    exact k_vret_w hx hb hr hlk (by rw [hw1]; exact hP) hSz dX6_build_90 rfl
  · cases hs
    exact k_vret_w hx hb hr hlk (by rw [hw1]; exact hP) hSz dX6_build_7 rfl
