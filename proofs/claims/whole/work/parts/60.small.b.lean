/-! X3_findAlive -/
set_option maxHeartbeats 4000000 in
set_option maxRecDepth 100000 in
theorem c_X3_findAlive (l : Launch) (D : va_G) (cI cZ cJ : ClassId) {q0 q1 q2 q3 q4 q5 q6 q7 : Nat} {m0 : Nat} {x_given : Int} {x_alive : Int} {x_folding_on : Int} {a_bytes : (Int → Int)} {a_lengths : (Int → Int)} {a_weights : (Int → Int)} {a_lives : (Int → Int)} {x_arg0_length : Int} {a_arg0_bytes : (Int → Int)} {pz2 : Int} {r : Int} (hm0 : m0 ≤ 2147483647) (hs : s_X3_findAlive m0 x_given x_folding_on a_bytes a_lengths a_lives x_arg0_length a_arg0_bytes pz2 = some r) : Met l yX3_findAlive wsX3_findAlive rm_X3_findAlive (PR D vwCl [(cI, .int), (cZ, .boolean), (cJ, .long)] [.ref q0, .ref q6, .int (iI pz2)] [(q0, .inr (3, [.ref q1, .ref q2, .ref q3, .ref q4, .ref q5, .int (iI x_given), .int (iI x_alive)])), (q1, .inr (2, [.int (iI x_folding_on)])), (q2, .inl (cI, 1920, .inl (mI a_bytes))), (q3, .inl (cI, 120, .inl (mI a_lengths))), (q4, .inl (cI, 120, .inl (mI a_weights))), (q5, .inl (cZ, 120, .inl (mI a_lives))), (q6, .inr (1, [.ref q7, .int (iI x_arg0_length)])), (q7, .inl (cI, m0, .inl (mI a_arg0_bytes)))]) (QR (some (.int (iI r)))) 0 0 (fun _ => False) := by
  refine Met.ofW (cc := cX3_findAlive) (maxL := 4) (ret := (some .int)) (by decide) rfl ?_
  intro p e s m args below meth c s₁ B hml hv
  obtain ⟨hav, hP, hK⟩ := hv
  have hx := B.exec
  have hb := B.bytes
  have hr := B.returns
  have hts := atoms_spec (ws := wsX3_findAlive) B.pre
  have hown : s.vm.findClass RX3 = some m.cls := findClass_of_methodNamed B.named
  have hlk := B.notSynchronized
  have hf29 : (Cond.fieldLink RX3 29 "KeywordMatcher$Keywords" "given" "I").before args s = true := hts _ (List.mem_of_getElem? (i := 1) rfl)
  have hiX3 : ∀ w ∈ wsX30, w ∈ wsX3_findAlive := fun w h => List.mem_cons_of_mem _ (List.mem_append_left _ (List.mem_append_left _ (List.mem_append_right _ h)))
  have hf25 : (Cond.fieldLink RX3 25 "KeywordMatcher$Keywords" "lives" "[Z").before args s = true := hts _ (List.mem_of_getElem? (i := 2) rfl)
  have hf19 : (Cond.fieldLink RX3 19 "KeywordMatcher$Keywords" "lengths" "[I").before args s = true := hts _ (List.mem_of_getElem? (i := 3) rfl)
  have hl := lv_entry ([.ref q0, .ref q6, .int (iI pz2)]) (n := 4) (Nat.le_of_ble_eq_true rfl)
  rw [show entryFrame m args 4 = entryFrame m ([.ref q0, .ref q6, .int (iI pz2)] : List Value).toArray 4 from by rw [hav], lg_entry_eq]
  generalize (lg_sl ([.ref q0, .ref q6, .int (iI pz2)]) ++ List.replicate (4 - (lg_sl ([.ref q0, .ref q6, .int (iI pz2)])).length) Slot.unset).toArray = ls at hl ⊢
  have hl : lv_has ls 4 [(0, .ref q0), (1, .ref q6), (2, .int (iI pz2))] := hl
  unfold s_X3_findAlive at hs
  have Lz2 : ∀ (fu : Nat) (l2 : Int) (l3 : Int), s_X3_findAlive_2 m0 fu x_given x_folding_on a_bytes a_lengths a_lives x_arg0_length a_arg0_bytes l2 l3 = some r → ∀ ls : Array Slot, lv_has ls 4 [(0, .ref q0), (1, .ref q6), (2, .int (iI l2)), (3, .int (iI l3))] → W p l e (headSpec wsX3_findAlive rm_X3_findAlive).room s m args below meth c s.heap [] 0 0 (MQ below (QR (some (.int (iI r)))) args s 0 0 (fun _ => False)) (F0 m 2 ls []) := by
    intro fu
    induction fu with
    | zero => intro l2 l3 hs; cases hs
    | succ fu ih =>
      intro l2 l3 hs ls hl
      rw [s_X3_findAlive_2_s] at hs
      refine lv_iload_n hx hb dX3_findAlive_2 rfl (lv_at hl 3 rfl) ?_
      refine lv_aload_n hx hb dX3_findAlive_3 rfl (lv_at hl 0 rfl) ?_
      refine va_get (ci := 3) (v := .int (iI x_given)) (C := RX3) (T := TX3) (N := 7) hx hb hts hiX3 hown hK hP 0 rfl rfl 5 (by decide) hf29 (fun _ h9 => h9) rfl dX3_findAlive_4 ?_
      refine k_icmp_ge (tgt := 47) hx hb hs dX3_findAlive_7 (by decide) (fun hs => ?_) (fun hs => ?_)
      · refine lv_aload_n hx hb dX3_findAlive_10 rfl (lv_at hl 0 rfl) ?_
        refine va_get (ci := 3) (v := .ref q5) (C := RX3) (T := TX3) (N := 7) hx hb hts hiX3 hown hK hP 0 rfl rfl 4 (by decide) hf25 (fun _ h9 => h9) rfl dX3_findAlive_11 ?_
        refine lv_iload_n hx hb dX3_findAlive_14 rfl (lv_at hl 3 rfl) ?_
        refine k_zald hx hb hK hP 5 1 rfl rfl (Nat.le_of_ble_eq_true rfl) hs dX3_findAlive_15 (fun vz1 hs => ?_)
        refine k_if_eq (tgt := 41) hx hb hs dX3_findAlive_16 (by decide) (fun hs => ?_) (fun hs => ?_)
        · refine k_iinc (x := l3) (k := 3) (lv' := [(3, .int (iI (l3 + 1))), (0, .ref q0), (1, .ref q6), (2, .int (iI l2))]) hx hb dX3_findAlive_41 hl rfl (by decide) rfl (fun ls hl => ?_)
          refine lv_goto (tgt := 2) hx hb dX3_findAlive_44 (by decide) ?_
          exact ih l2 (l3 + 1)  hs ls (lv_sub hl [1, 2, 3, 0] rfl)
        · refine lv_aload_n hx hb dX3_findAlive_19 rfl (lv_at hl 0 rfl) ?_
          refine va_get (ci := 3) (v := .ref q3) (C := RX3) (T := TX3) (N := 7) hx hb hts hiX3 hown hK hP 0 rfl rfl 2 (by decide) hf19 (fun _ h9 => h9) rfl dX3_findAlive_20 ?_
          refine lv_iload_n hx hb dX3_findAlive_23 rfl (lv_at hl 3 rfl) ?_
          refine k_iald hx hb hK hP 3 0 rfl rfl (Nat.le_of_ble_eq_true rfl) hs dX3_findAlive_24 (fun vz2 hs => ?_)
          refine lv_iload_n hx hb dX3_findAlive_25 rfl (lv_at hl 2 rfl) ?_
          refine k_icmp_ne (tgt := 41) hx hb hs dX3_findAlive_26 (by decide) (fun hs => ?_) (fun hs => ?_)
          · refine lv_aload_n hx hb dX3_findAlive_29 rfl (lv_at hl 0 rfl) ?_
            refine lv_iload_n hx hb dX3_findAlive_30 rfl (lv_at hl 3 rfl) ?_
            refine lv_aload_n hx hb dX3_findAlive_31 rfl (lv_at hl 1 rfl) ?_
            refine k_iconst (n := 0) hx hb dX3_findAlive_32 ?_
            obtain ⟨vz3, hcz, hs⟩ := bd1_some hs
            have hPc : va_P D vwCl [(q0, .inr (3, [.ref q1, .ref q2, .ref q3, .ref q4, .ref q5, .int (iI x_given), .int (iI x_alive)])), (q1, .inr (2, [.int (iI x_folding_on)])), (q2, .inl (cI, 1920, .inl (mI a_bytes))), (q3, .inl (cI, 120, .inl (mI a_lengths))), (q4, .inl (cI, 120, .inl (mI a_weights))), (q5, .inl (cZ, 120, .inl (mI a_lives))), (q6, .inr (1, [.ref q7, .int (iI x_arg0_length)])), (q7, .inl (cI, m0, .inl (mI a_arg0_bytes)))] s.heap := hP.sub [0, 1, 2, 3, 4, 5, 6, 7] rfl
            refine k_rV (As := [.int (iI l3), .ref q6, .int (iI 0)]) (rest := []) (st1 := [.int (iI vz3)]) ⟨hx, hb, hml, hown, hts⟩ hK hPc (c_X3_standsAt l D cI cZ cJ hm0 hcz) (cwV 3 hts gX3_findAlive_X3_standsAt rfl rfl rfl (by decide +kernel) ⟨Nat.le_of_ble_eq_true rfl, Nat.le_of_ble_eq_true rfl⟩) 0 rfl rfl rfl rfl hl.1 rfl (lv_room (Nat.le_of_ble_eq_true rfl)) dX3_findAlive_33 ⟨Nat.zero_le _, Nat.zero_le _⟩ rfl ?_
            refine k_if_eq (tgt := 41) hx hb hs dX3_findAlive_36 (by decide) (fun hs => ?_) (fun hs => ?_)
            · refine k_iinc (x := l3) (k := 3) (lv' := [(3, .int (iI (l3 + 1))), (0, .ref q0), (1, .ref q6), (2, .int (iI l2))]) hx hb dX3_findAlive_41 hl rfl (by decide) rfl (fun ls hl => ?_)
              refine lv_goto (tgt := 2) hx hb dX3_findAlive_44 (by decide) ?_
              exact ih l2 (l3 + 1)  hs ls (lv_sub hl [1, 2, 3, 0] rfl)
            · refine lv_iload_n hx hb dX3_findAlive_39 rfl (lv_at hl 3 rfl) ?_
              cases hs
              exact k_iret_r hx hb hr hlk rfl dX3_findAlive_40 rfl
          · refine k_iinc (x := l3) (k := 3) (lv' := [(3, .int (iI (l3 + 1))), (0, .ref q0), (1, .ref q6), (2, .int (iI l2))]) hx hb dX3_findAlive_41 hl rfl (by decide) rfl (fun ls hl => ?_)
            refine lv_goto (tgt := 2) hx hb dX3_findAlive_44 (by decide) ?_
            exact ih l2 (l3 + 1)  hs ls (lv_sub hl [1, 2, 3, 0] rfl)
      · refine k_iconst (n := (-1)) hx hb dX3_findAlive_47 ?_
        cases hs
        exact k_iret_r hx hb hr hlk rfl dX3_findAlive_48 rfl
  refine k_iconst (n := 0) hx hb dX3_findAlive_0 ?_
  refine lv_istore_n (lv' := [(3, .int (iI 0)), (0, .ref q0), (1, .ref q6), (2, .int (iI pz2))]) hx hb dX3_findAlive_1 rfl hl (by decide) rfl (fun ls hl => ?_)
  exact Lz2 FU pz2 0 hs ls (lv_sub hl [1, 2, 3, 0] rfl)
/-! X3_startsWith -/
set_option maxHeartbeats 4000000 in
set_option maxRecDepth 100000 in
theorem c_X3_startsWith (l : Launch) (D : va_G) (cI cZ cJ : ClassId) {q0 q1 q2 q3 q4 q5 q6 : Nat} {m1 : Nat} {x_given : Int} {x_alive : Int} {x_folding_on : Int} {a_bytes : (Int → Int)} {a_lengths : (Int → Int)} {a_weights : (Int → Int)} {a_lives : (Int → Int)} {a_arg1 : (Int → Int)} {pz1 : Int} {pz3 : Int} {pz4 : Int} {r : Int} (hm1 : m1 ≤ 2147483647) (hs : s_X3_startsWith m1 x_given x_folding_on a_bytes a_lengths a_arg1 pz1 pz3 pz4 = some r) : Met l yX3_startsWith wsX3_startsWith rm_X3_startsWith (PR D vwCl [(cI, .int), (cZ, .boolean), (cJ, .long)] [.ref q0, .int (iI pz1), .ref q6, .int (iI pz3), .int (iI pz4)] [(q0, .inr (3, [.ref q1, .ref q2, .ref q3, .ref q4, .ref q5, .int (iI x_given), .int (iI x_alive)])), (q1, .inr (2, [.int (iI x_folding_on)])), (q2, .inl (cI, 1920, .inl (mI a_bytes))), (q3, .inl (cI, 120, .inl (mI a_lengths))), (q4, .inl (cI, 120, .inl (mI a_weights))), (q5, .inl (cZ, 120, .inl (mI a_lives))), (q6, .inl (cI, m1, .inl (mI a_arg1)))]) (QR (some (.int (iI r)))) 0 0 (fun _ => False) := by
  refine Met.ofW (cc := cX3_startsWith) (maxL := 5) (ret := (some .boolean)) (by decide) rfl ?_
  intro p e s m args below meth c s₁ B hml hv
  obtain ⟨hav, hP, hK⟩ := hv
  have hx := B.exec
  have hb := B.bytes
  have hr := B.returns
  have hts := atoms_spec (ws := wsX3_startsWith) B.pre
  have hown : s.vm.findClass RX3 = some m.cls := findClass_of_methodNamed B.named
  have hlk := B.notSynchronized
  have hf9 : (Cond.fieldLink RX3 9 "KeywordMatcher$Keywords" "folding" "LKeywordMatcher$Folding;").before args s = true := hts _ (List.mem_of_getElem? (i := 1) rfl)
  have hiX3 : ∀ w ∈ wsX30, w ∈ wsX3_startsWith := fun w h => List.mem_cons_of_mem _ (List.mem_append_left _ (List.mem_append_right _ h))
  have hf15 : (Cond.fieldLink RX3 15 "KeywordMatcher$Keywords" "bytes" "[I").before args s = true := hts _ (List.mem_of_getElem? (i := 2) rfl)
  have hl := lv_entry ([.ref q0, .int (iI pz1), .ref q6, .int (iI pz3), .int (iI pz4)]) (n := 5) (Nat.le_of_ble_eq_true rfl)
  rw [show entryFrame m args 5 = entryFrame m ([.ref q0, .int (iI pz1), .ref q6, .int (iI pz3), .int (iI pz4)] : List Value).toArray 5 from by rw [hav], lg_entry_eq]
  generalize (lg_sl ([.ref q0, .int (iI pz1), .ref q6, .int (iI pz3), .int (iI pz4)]) ++ List.replicate (5 - (lg_sl ([.ref q0, .int (iI pz1), .ref q6, .int (iI pz3), .int (iI pz4)])).length) Slot.unset).toArray = ls at hl ⊢
  have hl : lv_has ls 5 [(0, .ref q0), (1, .int (iI pz1)), (2, .ref q6), (3, .int (iI pz3)), (4, .int (iI pz4))] := hl
  unfold s_X3_startsWith at hs
  refine lv_iload hx hb dX3_startsWith_0 (lv_at hl 4 rfl) ?_
  refine lv_aload_n hx hb dX3_startsWith_2 rfl (lv_at hl 0 rfl) ?_
  refine lv_iload_n hx hb dX3_startsWith_3 rfl (lv_at hl 1 rfl) ?_
  obtain ⟨vz1, hcz, hs⟩ := bd1_some hs
  have hPc : va_P D vwCl [(q0, .inr (3, [.ref q1, .ref q2, .ref q3, .ref q4, .ref q5, .int (iI x_given), .int (iI x_alive)])), (q1, .inr (2, [.int (iI x_folding_on)])), (q2, .inl (cI, 1920, .inl (mI a_bytes))), (q3, .inl (cI, 120, .inl (mI a_lengths))), (q4, .inl (cI, 120, .inl (mI a_weights))), (q5, .inl (cZ, 120, .inl (mI a_lives)))] s.heap := hP.sub [0, 1, 2, 3, 4, 5] rfl
  refine k_rV (As := [.int (iI pz1)]) (rest := [.int (iI pz4)]) (st1 := [.int (iI vz1), .int (iI pz4)]) ⟨hx, hb, hml, hown, hts⟩ hK hPc (c_X3_lengthOf l D cI cZ cJ hcz) (cwV 1 hts gX3_startsWith_X3_lengthOf rfl rfl rfl (by decide +kernel) ⟨Nat.le_of_ble_eq_true rfl, Nat.le_of_ble_eq_true rfl⟩) 0 rfl rfl rfl rfl hl.1 rfl (lv_room (Nat.le_of_ble_eq_true rfl)) dX3_startsWith_4 ⟨Nat.zero_le _, Nat.zero_le _⟩ rfl ?_
  refine k_icmp_gt (tgt := 37) hx hb hs dX3_startsWith_7 (by decide) (fun hs => ?_) (fun hs => ?_)
  · refine k_iconst (n := 0) hx hb dX3_startsWith_37 ?_
    cases hs
    exact k_zret_r hx hb hr hlk rfl (by decide) dX3_startsWith_38 rfl
  · refine lv_aload_n hx hb dX3_startsWith_10 rfl (lv_at hl 0 rfl) ?_
    refine va_get (ci := 3) (v := .ref q1) (C := RX3) (T := TX3) (N := 7) hx hb hts hiX3 hown hK hP 0 rfl rfl 0 (by decide) hf9 (fun _ h9 => h9) rfl dX3_startsWith_11 ?_
    refine lv_aload_n hx hb dX3_startsWith_14 rfl (lv_at hl 0 rfl) ?_
    refine va_get (ci := 3) (v := .ref q2) (C := RX3) (T := TX3) (N := 7) hx hb hts hiX3 hown hK hP 0 rfl rfl 1 (by decide) hf15 (fun _ h9 => h9) rfl dX3_startsWith_15 ?_
    refine lv_aload_n hx hb dX3_startsWith_18 rfl (lv_at hl 0 rfl) ?_
    refine lv_iload_n hx hb dX3_startsWith_19 rfl (lv_at hl 1 rfl) ?_
    obtain ⟨vz2, hcz, hs⟩ := bd1_some hs
    have hPc : va_P D vwCl [(q0, .inr (3, [.ref q1, .ref q2, .ref q3, .ref q4, .ref q5, .int (iI x_given), .int (iI x_alive)])), (q1, .inr (2, [.int (iI x_folding_on)])), (q2, .inl (cI, 1920, .inl (mI a_bytes))), (q3, .inl (cI, 120, .inl (mI a_lengths))), (q4, .inl (cI, 120, .inl (mI a_weights))), (q5, .inl (cZ, 120, .inl (mI a_lives)))] s.heap := hP.sub [0, 1, 2, 3, 4, 5] rfl
    refine k_rV (As := [.int (iI pz1)]) (rest := [.ref q2, .ref q1]) (st1 := [.int (iI vz2), .ref q2, .ref q1]) ⟨hx, hb, hml, hown, hts⟩ hK hPc (c_X3_firstByteOf l D cI cZ cJ hcz) (cwV 1 hts gX3_startsWith_X3_firstByteOf rfl rfl rfl (by decide +kernel) ⟨Nat.le_of_ble_eq_true rfl, Nat.le_of_ble_eq_true rfl⟩) 0 rfl rfl rfl rfl hl.1 rfl (lv_room (Nat.le_of_ble_eq_true rfl)) dX3_startsWith_20 ⟨Nat.zero_le _, Nat.zero_le _⟩ rfl ?_
    refine lv_aload_n hx hb dX3_startsWith_23 rfl (lv_at hl 2 rfl) ?_
    refine lv_iload_n hx hb dX3_startsWith_24 rfl (lv_at hl 3 rfl) ?_
    refine lv_iload hx hb dX3_startsWith_25 (lv_at hl 4 rfl) ?_
    obtain ⟨vz3, hcz, hs⟩ := bd1_some hs
    have hPc : va_P D vwCl [(q1, .inr (2, [.int (iI x_folding_on)])), (q2, .inl (cI, 1920, .inl (mI a_bytes))), (q6, .inl (cI, m1, .inl (mI a_arg1)))] s.heap := hP.sub [1, 2, 6] rfl
    refine k_rV (As := [.ref q2, .int (iI vz2), .ref q6, .int (iI pz3), .int (iI pz4)]) (rest := []) (st1 := [.int (iI vz3)]) ⟨hx, hb, hml, hown, hts⟩ hK hPc (c_X2_same l D cI cZ cJ (Nat.le_of_ble_eq_true rfl) hm1 hcz) (cwV 5 hts gX3_startsWith_X2_same rfl rfl rfl (by decide +kernel) ⟨Nat.le_of_ble_eq_true rfl, Nat.le_of_ble_eq_true rfl⟩) 0 rfl rfl rfl rfl hl.1 rfl (lv_room (Nat.le_of_ble_eq_true rfl)) dX3_startsWith_27 ⟨Nat.zero_le _, Nat.zero_le _⟩ rfl ?_
    refine k_if_eq (tgt := 37) hx hb hs dX3_startsWith_30 (by decide) (fun hs => ?_) (fun hs => ?_)
    · refine k_iconst (n := 0) hx hb dX3_startsWith_37 ?_
      cases hs
      exact k_zret_r hx hb hr hlk rfl (by decide) dX3_startsWith_38 rfl
    · refine k_iconst (n := 1) hx hb dX3_startsWith_33 ?_
      refine lv_goto (tgt := 38) hx hb dX3_startsWith_34 (by decide) ?_
      cases hs
      exact k_zret_r hx hb hr hlk rfl (by decide) dX3_startsWith_38 rfl
/-! X3_commonPrefix -/
set_option maxHeartbeats 4000000 in
set_option maxRecDepth 100000 in
theorem c_X3_commonPrefix (l : Launch) (D : va_G) (cI cZ cJ : ClassId) {q0 q1 q2 q3 q4 q5 : Nat} {x_given : Int} {x_alive : Int} {x_folding_on : Int} {a_bytes : (Int → Int)} {a_lengths : (Int → Int)} {a_weights : (Int → Int)} {a_lives : (Int → Int)} {pz1 : Int} {pz2 : Int} {r : Int} (hs : s_X3_commonPrefix x_given x_folding_on a_bytes a_lengths pz1 pz2 = some r) : Met l yX3_commonPrefix wsX3_commonPrefix rm_X3_commonPrefix (PR D vwCl [(cI, .int), (cZ, .boolean), (cJ, .long)] [.ref q0, .int (iI pz1), .int (iI pz2)] [(q0, .inr (3, [.ref q1, .ref q2, .ref q3, .ref q4, .ref q5, .int (iI x_given), .int (iI x_alive)])), (q1, .inr (2, [.int (iI x_folding_on)])), (q2, .inl (cI, 1920, .inl (mI a_bytes))), (q3, .inl (cI, 120, .inl (mI a_lengths))), (q4, .inl (cI, 120, .inl (mI a_weights))), (q5, .inl (cZ, 120, .inl (mI a_lives)))]) (QR (some (.int (iI r)))) 0 0 (fun _ => False) := by
  refine Met.ofW (cc := cX3_commonPrefix) (maxL := 4) (ret := (some .int)) (by decide) rfl ?_
  intro p e s m args below meth c s₁ B hml hv
  obtain ⟨hav, hP, hK⟩ := hv
  have hx := B.exec
  have hb := B.bytes
  have hr := B.returns
  have hts := atoms_spec (ws := wsX3_commonPrefix) B.pre
  have hown : s.vm.findClass RX3 = some m.cls := findClass_of_methodNamed B.named
  have hlk := B.notSynchronized
  have hm69 : (Cond.methodLink RX3 69 Lib.Math.min.name).before args s = true := hts _ (List.mem_of_getElem? (i := 1) rfl)
  have hst_min : (Cond.static Lib.Math.min.name).before args s = true := hts _ (List.mem_of_getElem? (i := 2) rfl)
  have hin_Math : (Cond.initialized "java/lang/Math").before args s = true := hts _ (List.mem_of_getElem? (i := 3) rfl)
  have hcd_min : (Cond.code Lib.Math.min.name Lib.Math.min.code 2 (some .int)).before args s = true := hts _ (List.mem_of_getElem? (i := 4) rfl)
  have hf9 : (Cond.fieldLink RX3 9 "KeywordMatcher$Keywords" "folding" "LKeywordMatcher$Folding;").before args s = true := hts _ (List.mem_of_getElem? (i := 5) rfl)
  have hiX3 : ∀ w ∈ wsX30, w ∈ wsX3_commonPrefix := fun w h => List.mem_cons_of_mem _ (List.mem_append_left _ (List.mem_append_right _ h))
  have hf15 : (Cond.fieldLink RX3 15 "KeywordMatcher$Keywords" "bytes" "[I").before args s = true := hts _ (List.mem_of_getElem? (i := 6) rfl)
  have hl := lv_entry ([.ref q0, .int (iI pz1), .int (iI pz2)]) (n := 4) (Nat.le_of_ble_eq_true rfl)
  rw [show entryFrame m args 4 = entryFrame m ([.ref q0, .int (iI pz1), .int (iI pz2)] : List Value).toArray 4 from by rw [hav], lg_entry_eq]
  generalize (lg_sl ([.ref q0, .int (iI pz1), .int (iI pz2)]) ++ List.replicate (4 - (lg_sl ([.ref q0, .int (iI pz1), .int (iI pz2)])).length) Slot.unset).toArray = ls at hl ⊢
  have hl : lv_has ls 4 [(0, .ref q0), (1, .int (iI pz1)), (2, .int (iI pz2))] := hl
  unfold s_X3_commonPrefix at hs
  refine lv_aload_n hx hb dX3_commonPrefix_0 rfl (lv_at hl 0 rfl) ?_
  refine lv_iload_n hx hb dX3_commonPrefix_1 rfl (lv_at hl 1 rfl) ?_
  obtain ⟨vz1, hcz, hs⟩ := bd1_some hs
  have hPc : va_P D vwCl [(q0, .inr (3, [.ref q1, .ref q2, .ref q3, .ref q4, .ref q5, .int (iI x_given), .int (iI x_alive)])), (q1, .inr (2, [.int (iI x_folding_on)])), (q2, .inl (cI, 1920, .inl (mI a_bytes))), (q3, .inl (cI, 120, .inl (mI a_lengths))), (q4, .inl (cI, 120, .inl (mI a_weights))), (q5, .inl (cZ, 120, .inl (mI a_lives)))] s.heap := hP.sub [0, 1, 2, 3, 4, 5] rfl
  refine k_rV (As := [.int (iI pz1)]) (rest := []) (st1 := [.int (iI vz1)]) ⟨hx, hb, hml, hown, hts⟩ hK hPc (c_X3_lengthOf l D cI cZ cJ hcz) (cwV 1 hts gX3_commonPrefix_X3_lengthOf rfl rfl rfl (by decide +kernel) ⟨Nat.le_of_ble_eq_true rfl, Nat.le_of_ble_eq_true rfl⟩) 0 rfl rfl rfl rfl hl.1 rfl (lv_room (Nat.le_of_ble_eq_true rfl)) dX3_commonPrefix_2 ⟨Nat.zero_le _, Nat.zero_le _⟩ rfl ?_
  refine lv_aload_n hx hb dX3_commonPrefix_5 rfl (lv_at hl 0 rfl) ?_
  refine lv_iload_n hx hb dX3_commonPrefix_6 rfl (lv_at hl 2 rfl) ?_
  obtain ⟨vz2, hcz, hs⟩ := bd1_some hs
  have hPc : va_P D vwCl [(q0, .inr (3, [.ref q1, .ref q2, .ref q3, .ref q4, .ref q5, .int (iI x_given), .int (iI x_alive)])), (q1, .inr (2, [.int (iI x_folding_on)])), (q2, .inl (cI, 1920, .inl (mI a_bytes))), (q3, .inl (cI, 120, .inl (mI a_lengths))), (q4, .inl (cI, 120, .inl (mI a_weights))), (q5, .inl (cZ, 120, .inl (mI a_lives)))] s.heap := hP.sub [0, 1, 2, 3, 4, 5] rfl
  refine k_rV (As := [.int (iI pz2)]) (rest := [.int (iI vz1)]) (st1 := [.int (iI vz2), .int (iI vz1)]) ⟨hx, hb, hml, hown, hts⟩ hK hPc (c_X3_lengthOf l D cI cZ cJ hcz) (cwV 1 hts gX3_commonPrefix_X3_lengthOf rfl rfl rfl (by decide +kernel) ⟨Nat.le_of_ble_eq_true rfl, Nat.le_of_ble_eq_true rfl⟩) 0 rfl rfl rfl rfl hl.1 rfl (lv_room (Nat.le_of_ble_eq_true rfl)) dX3_commonPrefix_7 ⟨Nat.zero_le _, Nat.zero_le _⟩ rfl ?_
  refine k_mmin hx hb (hml.trans hl.1.symm) hown hm69 hst_min hin_Math hcd_min (Nat.le_of_ble_eq_true rfl) (Nat.le_of_ble_eq_true rfl) (Nat.zero_le _) (Nat.zero_le _) hs dX3_commonPrefix_10 (fun hs => ?_)
  refine lv_istore_n (lv' := [(3, .int (iI (iMin vz1 vz2))), (0, .ref q0), (1, .int (iI pz1)), (2, .int (iI pz2))]) hx hb dX3_commonPrefix_13 rfl hl (by decide) rfl (fun ls hl => ?_)
  refine lv_aload_n hx hb dX3_commonPrefix_14 rfl (lv_at hl 1 rfl) ?_
  refine va_get (ci := 3) (v := .ref q1) (C := RX3) (T := TX3) (N := 7) hx hb hts hiX3 hown hK hP 0 rfl rfl 0 (by decide) hf9 (fun _ h9 => h9) rfl dX3_commonPrefix_15 ?_
  refine lv_aload_n hx hb dX3_commonPrefix_18 rfl (lv_at hl 1 rfl) ?_
  refine va_get (ci := 3) (v := .ref q2) (C := RX3) (T := TX3) (N := 7) hx hb hts hiX3 hown hK hP 0 rfl rfl 1 (by decide) hf15 (fun _ h9 => h9) rfl dX3_commonPrefix_19 ?_
  refine lv_aload_n hx hb dX3_commonPrefix_22 rfl (lv_at hl 1 rfl) ?_
  refine lv_iload_n hx hb dX3_commonPrefix_23 rfl (lv_at hl 2 rfl) ?_
  obtain ⟨vz3, hcz, hs⟩ := bd1_some hs
  have hPc : va_P D vwCl [(q0, .inr (3, [.ref q1, .ref q2, .ref q3, .ref q4, .ref q5, .int (iI x_given), .int (iI x_alive)])), (q1, .inr (2, [.int (iI x_folding_on)])), (q2, .inl (cI, 1920, .inl (mI a_bytes))), (q3, .inl (cI, 120, .inl (mI a_lengths))), (q4, .inl (cI, 120, .inl (mI a_weights))), (q5, .inl (cZ, 120, .inl (mI a_lives)))] s.heap := hP.sub [0, 1, 2, 3, 4, 5] rfl
  refine k_rV (As := [.int (iI pz1)]) (rest := [.ref q2, .ref q1]) (st1 := [.int (iI vz3), .ref q2, .ref q1]) ⟨hx, hb, hml, hown, hts⟩ hK hPc (c_X3_firstByteOf l D cI cZ cJ hcz) (cwV 1 hts gX3_commonPrefix_X3_firstByteOf rfl rfl rfl (by decide +kernel) ⟨Nat.le_of_ble_eq_true rfl, Nat.le_of_ble_eq_true rfl⟩) 0 rfl rfl rfl rfl hl.1 rfl (lv_room (Nat.le_of_ble_eq_true rfl)) dX3_commonPrefix_24 ⟨Nat.zero_le _, Nat.zero_le _⟩ rfl ?_
  refine lv_aload_n hx hb dX3_commonPrefix_27 rfl (lv_at hl 1 rfl) ?_
  refine va_get (ci := 3) (v := .ref q2) (C := RX3) (T := TX3) (N := 7) hx hb hts hiX3 hown hK hP 0 rfl rfl 1 (by decide) hf15 (fun _ h9 => h9) rfl dX3_commonPrefix_28 ?_
  refine lv_aload_n hx hb dX3_commonPrefix_31 rfl (lv_at hl 1 rfl) ?_
  refine lv_iload_n hx hb dX3_commonPrefix_32 rfl (lv_at hl 3 rfl) ?_
  obtain ⟨vz4, hcz, hs⟩ := bd1_some hs
  have hPc : va_P D vwCl [(q0, .inr (3, [.ref q1, .ref q2, .ref q3, .ref q4, .ref q5, .int (iI x_given), .int (iI x_alive)])), (q1, .inr (2, [.int (iI x_folding_on)])), (q2, .inl (cI, 1920, .inl (mI a_bytes))), (q3, .inl (cI, 120, .inl (mI a_lengths))), (q4, .inl (cI, 120, .inl (mI a_weights))), (q5, .inl (cZ, 120, .inl (mI a_lives)))] s.heap := hP.sub [0, 1, 2, 3, 4, 5] rfl
  refine k_rV (As := [.int (iI pz2)]) (rest := [.ref q2, .int (iI vz3), .ref q2, .ref q1]) (st1 := [.int (iI vz4), .ref q2, .int (iI vz3), .ref q2, .ref q1]) ⟨hx, hb, hml, hown, hts⟩ hK hPc (c_X3_firstByteOf l D cI cZ cJ hcz) (cwV 1 hts gX3_commonPrefix_X3_firstByteOf rfl rfl rfl (by decide +kernel) ⟨Nat.le_of_ble_eq_true rfl, Nat.le_of_ble_eq_true rfl⟩) 0 rfl rfl rfl rfl hl.1 rfl (lv_room (Nat.le_of_ble_eq_true rfl)) dX3_commonPrefix_33 ⟨Nat.zero_le _, Nat.zero_le _⟩ rfl ?_
  refine lv_iload_n hx hb dX3_commonPrefix_36 rfl (lv_at hl 0 rfl) ?_
  obtain ⟨vz5, hcz, hs⟩ := bd1_some hs
  have hPc : va_P D vwCl [(q1, .inr (2, [.int (iI x_folding_on)])), (q2, .inl (cI, 1920, .inl (mI a_bytes))), (q2, .inl (cI, 1920, .inl (mI a_bytes)))] s.heap := hP.sub [1, 2, 2] rfl
  refine k_rV (As := [.ref q2, .int (iI vz3), .ref q2, .int (iI vz4), .int (iI (iMin vz1 vz2))]) (rest := []) (st1 := [.int (iI vz5)]) ⟨hx, hb, hml, hown, hts⟩ hK hPc (c_X2_commonPrefix l D cI cZ cJ (Nat.le_of_ble_eq_true rfl) (Nat.le_of_ble_eq_true rfl) hcz) (cwV 5 hts gX3_commonPrefix_X2_commonPrefix rfl rfl rfl (by decide +kernel) ⟨Nat.le_of_ble_eq_true rfl, Nat.le_of_ble_eq_true rfl⟩) 0 rfl rfl rfl rfl hl.1 rfl (lv_room (Nat.le_of_ble_eq_true rfl)) dX3_commonPrefix_37 ⟨Nat.zero_le _, Nat.zero_le _⟩ rfl ?_
  cases hs
  exact k_iret_r hx hb hr hlk rfl dX3_commonPrefix_40 rfl
/-! X3_mismatchesAt -/
set_option maxHeartbeats 4000000 in
set_option maxRecDepth 100000 in
theorem c_X3_mismatchesAt (l : Launch) (D : va_G) (cI cZ cJ : ClassId) {q0 q1 q2 q3 q4 q5 q6 q7 : Nat} {m1 : Nat} {x_given : Int} {x_alive : Int} {x_folding_on : Int} {a_bytes : (Int → Int)} {a_lengths : (Int → Int)} {a_weights : (Int → Int)} {a_lives : (Int → Int)} {x_arg1_length : Int} {a_arg1_bytes : (Int → Int)} {pz1 : Int} {pz3 : Int} {r : Int} (hm1 : m1 ≤ 2147483647) (hs : s_X3_mismatchesAt m1 x_given x_folding_on a_bytes a_lengths x_arg1_length a_arg1_bytes pz1 pz3 = some r) : Met l yX3_mismatchesAt wsX3_mismatchesAt rm_X3_mismatchesAt (PR D vwCl [(cI, .int), (cZ, .boolean), (cJ, .long)] [.ref q0, .int (iI pz1), .ref q6, .int (iI pz3)] [(q0, .inr (3, [.ref q1, .ref q2, .ref q3, .ref q4, .ref q5, .int (iI x_given), .int (iI x_alive)])), (q1, .inr (2, [.int (iI x_folding_on)])), (q2, .inl (cI, 1920, .inl (mI a_bytes))), (q3, .inl (cI, 120, .inl (mI a_lengths))), (q4, .inl (cI, 120, .inl (mI a_weights))), (q5, .inl (cZ, 120, .inl (mI a_lives))), (q6, .inr (1, [.ref q7, .int (iI x_arg1_length)])), (q7, .inl (cI, m1, .inl (mI a_arg1_bytes)))]) (QR (some (.int (iI r)))) 0 0 (fun _ => False) := by
  refine Met.ofW (cc := cX3_mismatchesAt) (maxL := 6) (ret := (some .int)) (by decide) rfl ?_
  intro p e s m args below meth c s₁ B hml hv
  obtain ⟨hav, hP, hK⟩ := hv
  have hx := B.exec
  have hb := B.bytes
  have hr := B.returns
  have hts := atoms_spec (ws := wsX3_mismatchesAt) B.pre
  have hown : s.vm.findClass RX3 = some m.cls := findClass_of_methodNamed B.named
  have hlk := B.notSynchronized
  have hf9 : (Cond.fieldLink RX3 9 "KeywordMatcher$Keywords" "folding" "LKeywordMatcher$Folding;").before args s = true := hts _ (List.mem_of_getElem? (i := 1) rfl)
  have hiX3 : ∀ w ∈ wsX30, w ∈ wsX3_mismatchesAt := fun w h => List.mem_cons_of_mem _ (List.mem_append_left _ (List.mem_append_left _ (List.mem_append_right _ h)))
  have hl := lv_entry ([.ref q0, .int (iI pz1), .ref q6, .int (iI pz3)]) (n := 6) (Nat.le_of_ble_eq_true rfl)
  rw [show entryFrame m args 6 = entryFrame m ([.ref q0, .int (iI pz1), .ref q6, .int (iI pz3)] : List Value).toArray 6 from by rw [hav], lg_entry_eq]
  generalize (lg_sl ([.ref q0, .int (iI pz1), .ref q6, .int (iI pz3)]) ++ List.replicate (6 - (lg_sl ([.ref q0, .int (iI pz1), .ref q6, .int (iI pz3)])).length) Slot.unset).toArray = ls at hl ⊢
  have hl : lv_has ls 6 [(0, .ref q0), (1, .int (iI pz1)), (2, .ref q6), (3, .int (iI pz3))] := hl
  unfold s_X3_mismatchesAt at hs
  have Lz6 : ∀ (fu : Nat) (l1 : Int) (l3 : Int) (l4 : Int) (l5 : Int) (y0 : Int), s_X3_mismatchesAt_6 m1 fu x_given x_folding_on a_bytes a_lengths x_arg1_length a_arg1_bytes l1 l3 l4 l5 = some y0 → ∀ ls : Array Slot, lv_has ls 6 [(0, .ref q0), (1, .int (iI l1)), (2, .ref q6), (3, .int (iI l3)), (4, .int (iI l4)), (5, .int (iI l5))] → (∀ ls : Array Slot, lv_has ls 6 [(4, .int (iI y0))] → W p l e (headSpec wsX3_mismatchesAt rm_X3_mismatchesAt).room s m args below meth c s.heap [] 0 0 (MQ below (QR (some (.int (iI r)))) args s 0 0 (fun _ => False)) (F0 m 57 ls [])) → W p l e (headSpec wsX3_mismatchesAt rm_X3_mismatchesAt).room s m args below meth c s.heap [] 0 0 (MQ below (QR (some (.int (iI r)))) args s 0 0 (fun _ => False)) (F0 m 6 ls []) := by
    intro fu
    induction fu with
    | zero => intro l1 l3 l4 l5 y0 hs; cases hs
    | succ fu ih =>
      intro l1 l3 l4 l5 y0 hs ls hl kx
      rw [s_X3_mismatchesAt_6_s] at hs
      refine lv_iload hx hb dX3_mismatchesAt_6 (lv_at hl 5 rfl) ?_
      refine lv_aload_n hx hb dX3_mismatchesAt_8 rfl (lv_at hl 0 rfl) ?_
      refine lv_iload_n hx hb dX3_mismatchesAt_9 rfl (lv_at hl 1 rfl) ?_
      obtain ⟨vz1, hcz, hs⟩ := bd1_some hs
      have hPc : va_P D vwCl [(q0, .inr (3, [.ref q1, .ref q2, .ref q3, .ref q4, .ref q5, .int (iI x_given), .int (iI x_alive)])), (q1, .inr (2, [.int (iI x_folding_on)])), (q2, .inl (cI, 1920, .inl (mI a_bytes))), (q3, .inl (cI, 120, .inl (mI a_lengths))), (q4, .inl (cI, 120, .inl (mI a_weights))), (q5, .inl (cZ, 120, .inl (mI a_lives)))] s.heap := hP.sub [0, 1, 2, 3, 4, 5] rfl
      refine k_rV (As := [.int (iI l1)]) (rest := [.int (iI l5)]) (st1 := [.int (iI vz1), .int (iI l5)]) ⟨hx, hb, hml, hown, hts⟩ hK hPc (c_X3_lengthOf l D cI cZ cJ hcz) (cwV 1 hts gX3_mismatchesAt_X3_lengthOf rfl rfl rfl (by decide +kernel) ⟨Nat.le_of_ble_eq_true rfl, Nat.le_of_ble_eq_true rfl⟩) 0 rfl rfl rfl rfl hl.1 rfl (lv_room (Nat.le_of_ble_eq_true rfl)) dX3_mismatchesAt_10 ⟨Nat.zero_le _, Nat.zero_le _⟩ rfl ?_
      refine k_icmp_ge (tgt := 57) hx hb hs dX3_mismatchesAt_13 (by decide) (fun hs => ?_) (fun hs => ?_)
      · refine lv_aload_n hx hb dX3_mismatchesAt_16 rfl (lv_at hl 0 rfl) ?_
        refine va_get (ci := 3) (v := .ref q1) (C := RX3) (T := TX3) (N := 7) hx hb hts hiX3 hown hK hP 0 rfl rfl 0 (by decide) hf9 (fun _ h9 => h9) rfl dX3_mismatchesAt_17 ?_
        refine lv_aload_n hx hb dX3_mismatchesAt_20 rfl (lv_at hl 0 rfl) ?_
        refine lv_iload_n hx hb dX3_mismatchesAt_21 rfl (lv_at hl 1 rfl) ?_
        refine lv_iload hx hb dX3_mismatchesAt_22 (lv_at hl 5 rfl) ?_
        obtain ⟨vz2, hcz, hs⟩ := bd1_some hs
        have hPc : va_P D vwCl [(q0, .inr (3, [.ref q1, .ref q2, .ref q3, .ref q4, .ref q5, .int (iI x_given), .int (iI x_alive)])), (q1, .inr (2, [.int (iI x_folding_on)])), (q2, .inl (cI, 1920, .inl (mI a_bytes))), (q3, .inl (cI, 120, .inl (mI a_lengths))), (q4, .inl (cI, 120, .inl (mI a_weights))), (q5, .inl (cZ, 120, .inl (mI a_lives)))] s.heap := hP.sub [0, 1, 2, 3, 4, 5] rfl
        refine k_rV (As := [.int (iI l1), .int (iI l5)]) (rest := [.ref q1]) (st1 := [.int (iI vz2), .ref q1]) ⟨hx, hb, hml, hown, hts⟩ hK hPc (c_X3_byteOf l D cI cZ cJ hcz) (cwV 2 hts gX3_mismatchesAt_X3_byteOf rfl rfl rfl (by decide +kernel) ⟨Nat.le_of_ble_eq_true rfl, Nat.le_of_ble_eq_true rfl⟩) 0 rfl rfl rfl rfl hl.1 rfl (lv_room (Nat.le_of_ble_eq_true rfl)) dX3_mismatchesAt_24 ⟨Nat.zero_le _, Nat.zero_le _⟩ rfl ?_
        obtain ⟨vz3, hcz, hs⟩ := bd1_some hs
        have hPc : va_P D vwCl [(q1, .inr (2, [.int (iI x_folding_on)]))] s.heap := hP.sub [1] rfl
        refine k_rV (As := [.int (iI vz2)]) (rest := []) (st1 := [.int (iI vz3)]) ⟨hx, hb, hml, hown, hts⟩ hK hPc (c_X2_fold l D cI cZ cJ hcz) (cwV 1 hts gX3_mismatchesAt_X2_fold rfl rfl rfl (by decide +kernel) ⟨Nat.le_of_ble_eq_true rfl, Nat.le_of_ble_eq_true rfl⟩) 0 rfl rfl rfl rfl hl.1 rfl (lv_room (Nat.le_of_ble_eq_true rfl)) dX3_mismatchesAt_27 ⟨Nat.zero_le _, Nat.zero_le _⟩ rfl ?_
        refine lv_aload_n hx hb dX3_mismatchesAt_30 rfl (lv_at hl 0 rfl) ?_
        refine va_get (ci := 3) (v := .ref q1) (C := RX3) (T := TX3) (N := 7) hx hb hts hiX3 hown hK hP 0 rfl rfl 0 (by decide) hf9 (fun _ h9 => h9) rfl dX3_mismatchesAt_31 ?_
        refine lv_aload_n hx hb dX3_mismatchesAt_34 rfl (lv_at hl 2 rfl) ?_
        refine lv_iload_n hx hb dX3_mismatchesAt_35 rfl (lv_at hl 3 rfl) ?_
        refine lv_iload hx hb dX3_mismatchesAt_36 (lv_at hl 5 rfl) ?_
        refine k_iadd hx hb dX3_mismatchesAt_38 ?_
        obtain ⟨vz4, hcz, hs⟩ := bd1_some hs
        have hPc : va_P D vwCl [(q6, .inr (1, [.ref q7, .int (iI x_arg1_length)])), (q7, .inl (cI, m1, .inl (mI a_arg1_bytes)))] s.heap := hP.sub [6, 7] rfl
        refine k_rV (As := [.int (iI (l3 + l5))]) (rest := [.ref q1, .int (iI vz3)]) (st1 := [.int (iI vz4), .ref q1, .int (iI vz3)]) ⟨hx, hb, hml, hown, hts⟩ hK hPc (c_X1_at l D cI cZ cJ hm1 hcz) (cwV 1 hts gX3_mismatchesAt_X1_at rfl rfl rfl (by decide +kernel) ⟨Nat.le_of_ble_eq_true rfl, Nat.le_of_ble_eq_true rfl⟩) 0 rfl rfl rfl rfl hl.1 rfl (lv_room (Nat.le_of_ble_eq_true rfl)) dX3_mismatchesAt_39 ⟨Nat.zero_le _, Nat.zero_le _⟩ rfl ?_
        obtain ⟨vz5, hcz, hs⟩ := bd1_some hs
        have hPc : va_P D vwCl [(q1, .inr (2, [.int (iI x_folding_on)]))] s.heap := hP.sub [1] rfl
        refine k_rV (As := [.int (iI vz4)]) (rest := [.int (iI vz3)]) (st1 := [.int (iI vz5), .int (iI vz3)]) ⟨hx, hb, hml, hown, hts⟩ hK hPc (c_X2_fold l D cI cZ cJ hcz) (cwV 1 hts gX3_mismatchesAt_X2_fold rfl rfl rfl (by decide +kernel) ⟨Nat.le_of_ble_eq_true rfl, Nat.le_of_ble_eq_true rfl⟩) 0 rfl rfl rfl rfl hl.1 rfl (lv_room (Nat.le_of_ble_eq_true rfl)) dX3_mismatchesAt_42 ⟨Nat.zero_le _, Nat.zero_le _⟩ rfl ?_
        refine k_icmp_eq (tgt := 51) hx hb hs dX3_mismatchesAt_45 (by decide) (fun hs => ?_) (fun hs => ?_)
        · refine k_iinc (x := l5) (k := 5) (lv' := [(5, .int (iI (l5 + 1))), (0, .ref q0), (1, .int (iI l1)), (2, .ref q6), (3, .int (iI l3)), (4, .int (iI l4))]) hx hb dX3_mismatchesAt_51 hl rfl (by decide) rfl (fun ls hl => ?_)
          refine lv_goto (tgt := 6) hx hb dX3_mismatchesAt_54 (by decide) ?_
          exact ih l1 l3 l4 (l5 + 1) y0 hs ls (lv_sub hl [1, 2, 3, 4, 5, 0] rfl) kx
        · refine k_iinc (x := l4) (k := 4) (lv' := [(4, .int (iI (l4 + 1))), (0, .ref q0), (1, .int (iI l1)), (2, .ref q6), (3, .int (iI l3)), (5, .int (iI l5))]) hx hb dX3_mismatchesAt_48 hl rfl (by decide) rfl (fun ls hl => ?_)
          refine k_iinc (x := l5) (k := 5) (lv' := [(5, .int (iI (l5 + 1))), (4, .int (iI (l4 + 1))), (0, .ref q0), (1, .int (iI l1)), (2, .ref q6), (3, .int (iI l3))]) hx hb dX3_mismatchesAt_51 hl rfl (by decide) rfl (fun ls hl => ?_)
          refine lv_goto (tgt := 6) hx hb dX3_mismatchesAt_54 (by decide) ?_
          exact ih l1 l3 (l4 + 1) (l5 + 1) y0 hs ls (lv_sub hl [2, 3, 4, 5, 1, 0] rfl) kx
      · cases hs
        exact kx ls (lv_sub hl [4] rfl)
  refine k_iconst (n := 0) hx hb dX3_mismatchesAt_0 ?_
  refine lv_istore (lv' := [(4, .int (iI 0)), (0, .ref q0), (1, .int (iI pz1)), (2, .ref q6), (3, .int (iI pz3))]) hx hb dX3_mismatchesAt_1 hl (by decide) rfl (fun ls hl => ?_)
  refine k_iconst (n := 0) hx hb dX3_mismatchesAt_3 ?_
  refine lv_istore (lv' := [(5, .int (iI 0)), (4, .int (iI 0)), (0, .ref q0), (1, .int (iI pz1)), (2, .ref q6), (3, .int (iI pz3))]) hx hb dX3_mismatchesAt_4 hl (by decide) rfl (fun ls hl => ?_)
  obtain ⟨ez6, hq, hs⟩ := bd1_some hs
  refine Lz6 FU pz1 pz3 0 0 ez6 hq ls (lv_sub hl [2, 3, 4, 5, 1, 0] rfl) ?_
  intro ls hl
  refine lv_iload hx hb dX3_mismatchesAt_57 (lv_at hl 0 rfl) ?_
  cases hs
  exact k_iret_r hx hb hr hlk rfl dX3_mismatchesAt_59 rfl
/-! X3_isInsideAnother -/
set_option maxHeartbeats 4000000 in
set_option maxRecDepth 100000 in
theorem c_X3_isInsideAnother (l : Launch) (D : va_G) (cI cZ cJ : ClassId) {q0 q1 q2 q3 q4 q5 : Nat} {x_given : Int} {x_alive : Int} {x_folding_on : Int} {a_bytes : (Int → Int)} {a_lengths : (Int → Int)} {a_weights : (Int → Int)} {a_lives : (Int → Int)} {pz1 : Int} {r : Int} (hs : s_X3_isInsideAnother x_given x_folding_on a_bytes a_lengths a_lives pz1 = some r) : Met l yX3_isInsideAnother wsX3_isInsideAnother rm_X3_isInsideAnother (PR D vwCl [(cI, .int), (cZ, .boolean), (cJ, .long)] [.ref q0, .int (iI pz1)] [(q0, .inr (3, [.ref q1, .ref q2, .ref q3, .ref q4, .ref q5, .int (iI x_given), .int (iI x_alive)])), (q1, .inr (2, [.int (iI x_folding_on)])), (q2, .inl (cI, 1920, .inl (mI a_bytes))), (q3, .inl (cI, 120, .inl (mI a_lengths))), (q4, .inl (cI, 120, .inl (mI a_weights))), (q5, .inl (cZ, 120, .inl (mI a_lives)))]) (QR (some (.int (iI r)))) 0 0 (fun _ => False) := by
  refine Met.ofW (cc := cX3_isInsideAnother) (maxL := 6) (ret := (some .boolean)) (by decide) rfl ?_
  intro p e s m args below meth c s₁ B hml hv
  obtain ⟨hav, hP, hK⟩ := hv
  have hx := B.exec
  have hb := B.bytes
  have hr := B.returns
  have hts := atoms_spec (ws := wsX3_isInsideAnother) B.pre
  have hown : s.vm.findClass RX3 = some m.cls := findClass_of_methodNamed B.named
  have hlk := B.notSynchronized
  have hf29 : (Cond.fieldLink RX3 29 "KeywordMatcher$Keywords" "given" "I").before args s = true := hts _ (List.mem_of_getElem? (i := 1) rfl)
  have hiX3 : ∀ w ∈ wsX30, w ∈ wsX3_isInsideAnother := fun w h => List.mem_cons_of_mem _ (List.mem_append_left _ (List.mem_append_right _ h))
  have hf25 : (Cond.fieldLink RX3 25 "KeywordMatcher$Keywords" "lives" "[Z").before args s = true := hts _ (List.mem_of_getElem? (i := 2) rfl)
  have hf9 : (Cond.fieldLink RX3 9 "KeywordMatcher$Keywords" "folding" "LKeywordMatcher$Folding;").before args s = true := hts _ (List.mem_of_getElem? (i := 4) rfl)
  have hf15 : (Cond.fieldLink RX3 15 "KeywordMatcher$Keywords" "bytes" "[I").before args s = true := hts _ (List.mem_of_getElem? (i := 5) rfl)
  have hf19 : (Cond.fieldLink RX3 19 "KeywordMatcher$Keywords" "lengths" "[I").before args s = true := hts _ (List.mem_of_getElem? (i := 3) rfl)
  have hl := lv_entry ([.ref q0, .int (iI pz1)]) (n := 6) (Nat.le_of_ble_eq_true rfl)
  rw [show entryFrame m args 6 = entryFrame m ([.ref q0, .int (iI pz1)] : List Value).toArray 6 from by rw [hav], lg_entry_eq]
  generalize (lg_sl ([.ref q0, .int (iI pz1)]) ++ List.replicate (6 - (lg_sl ([.ref q0, .int (iI pz1)])).length) Slot.unset).toArray = ls at hl ⊢
  have hl : lv_has ls 6 [(0, .ref q0), (1, .int (iI pz1))] := hl
  unfold s_X3_isInsideAnother at hs
  have Lz49 : ∀ (fu : Nat) (l1 : Int) (l2 : Int) (l3 : Int) (l4 : Int) (l5 : Int) (outz : (Int) ⊕ (Unit)), s_X3_isInsideAnother_49 fu x_folding_on a_bytes l1 l2 l3 l4 l5 = some outz → ∀ ls : Array Slot, lv_has ls 6 [(0, .ref q0), (1, .int (iI l1)), (2, .int (iI l2)), (3, .int (iI l3)), (4, .int (iI l4)), (5, .int (iI l5))] → (∀ rr, outz = .inl rr → rr = r) → (outz = .inr () → ∀ ls : Array Slot, lv_has ls 6 [(0, .ref q0), (1, .int (iI l1)), (2, .int (iI l2)), (3, .int (iI l3))] → W p l e (headSpec wsX3_isInsideAnother rm_X3_isInsideAnother).room s m args below meth c s.heap [] 0 0 (MQ below (QR (some (.int (iI r)))) args s 0 0 (fun _ => False)) (F0 m 96 ls [])) → W p l e (headSpec wsX3_isInsideAnother rm_X3_isInsideAnother).room s m args below meth c s.heap [] 0 0 (MQ below (QR (some (.int (iI r)))) args s 0 0 (fun _ => False)) (F0 m 49 ls []) := by
    intro fu
    induction fu with
    | zero => intro l1 l2 l3 l4 l5 outz hs; cases hs
    | succ fu ih =>
      intro l1 l2 l3 l4 l5 outz hs ls hl kr kx
      rw [s_X3_isInsideAnother_49_s] at hs
      refine lv_iload hx hb dX3_isInsideAnother_49 (lv_at hl 5 rfl) ?_
      refine lv_iload hx hb dX3_isInsideAnother_51 (lv_at hl 4 rfl) ?_
      refine k_icmp_ge (tgt := 96) hx hb hs dX3_isInsideAnother_53 (by decide) (fun hs => ?_) (fun hs => ?_)
      · refine lv_aload_n hx hb dX3_isInsideAnother_56 rfl (lv_at hl 0 rfl) ?_
        refine va_get (ci := 3) (v := .ref q1) (C := RX3) (T := TX3) (N := 7) hx hb hts hiX3 hown hK hP 0 rfl rfl 0 (by decide) hf9 (fun _ h9 => h9) rfl dX3_isInsideAnother_57 ?_
        refine lv_aload_n hx hb dX3_isInsideAnother_60 rfl (lv_at hl 0 rfl) ?_
        refine va_get (ci := 3) (v := .ref q2) (C := RX3) (T := TX3) (N := 7) hx hb hts hiX3 hown hK hP 0 rfl rfl 1 (by decide) hf15 (fun _ h9 => h9) rfl dX3_isInsideAnother_61 ?_
        refine lv_aload_n hx hb dX3_isInsideAnother_64 rfl (lv_at hl 0 rfl) ?_
        refine lv_iload_n hx hb dX3_isInsideAnother_65 rfl (lv_at hl 1 rfl) ?_
        obtain ⟨vz3, hcz, hs⟩ := bd1_some hs
        have hPc : va_P D vwCl [(q0, .inr (3, [.ref q1, .ref q2, .ref q3, .ref q4, .ref q5, .int (iI x_given), .int (iI x_alive)])), (q1, .inr (2, [.int (iI x_folding_on)])), (q2, .inl (cI, 1920, .inl (mI a_bytes))), (q3, .inl (cI, 120, .inl (mI a_lengths))), (q4, .inl (cI, 120, .inl (mI a_weights))), (q5, .inl (cZ, 120, .inl (mI a_lives)))] s.heap := hP.sub [0, 1, 2, 3, 4, 5] rfl
        refine k_rV (As := [.int (iI l1)]) (rest := [.ref q2, .ref q1]) (st1 := [.int (iI vz3), .ref q2, .ref q1]) ⟨hx, hb, hml, hown, hts⟩ hK hPc (c_X3_firstByteOf l D cI cZ cJ hcz) (cwV 1 hts gX3_isInsideAnother_X3_firstByteOf rfl rfl rfl (by decide +kernel) ⟨Nat.le_of_ble_eq_true rfl, Nat.le_of_ble_eq_true rfl⟩) 0 rfl rfl rfl rfl hl.1 rfl (lv_room (Nat.le_of_ble_eq_true rfl)) dX3_isInsideAnother_66 ⟨Nat.zero_le _, Nat.zero_le _⟩ rfl ?_
        refine lv_aload_n hx hb dX3_isInsideAnother_69 rfl (lv_at hl 0 rfl) ?_
        refine va_get (ci := 3) (v := .ref q2) (C := RX3) (T := TX3) (N := 7) hx hb hts hiX3 hown hK hP 0 rfl rfl 1 (by decide) hf15 (fun _ h9 => h9) rfl dX3_isInsideAnother_70 ?_
        refine lv_aload_n hx hb dX3_isInsideAnother_73 rfl (lv_at hl 0 rfl) ?_
        refine lv_iload_n hx hb dX3_isInsideAnother_74 rfl (lv_at hl 3 rfl) ?_
        obtain ⟨vz4, hcz, hs⟩ := bd1_some hs
        have hPc : va_P D vwCl [(q0, .inr (3, [.ref q1, .ref q2, .ref q3, .ref q4, .ref q5, .int (iI x_given), .int (iI x_alive)])), (q1, .inr (2, [.int (iI x_folding_on)])), (q2, .inl (cI, 1920, .inl (mI a_bytes))), (q3, .inl (cI, 120, .inl (mI a_lengths))), (q4, .inl (cI, 120, .inl (mI a_weights))), (q5, .inl (cZ, 120, .inl (mI a_lives)))] s.heap := hP.sub [0, 1, 2, 3, 4, 5] rfl
        refine k_rV (As := [.int (iI l3)]) (rest := [.ref q2, .int (iI vz3), .ref q2, .ref q1]) (st1 := [.int (iI vz4), .ref q2, .int (iI vz3), .ref q2, .ref q1]) ⟨hx, hb, hml, hown, hts⟩ hK hPc (c_X3_firstByteOf l D cI cZ cJ hcz) (cwV 1 hts gX3_isInsideAnother_X3_firstByteOf rfl rfl rfl (by decide +kernel) ⟨Nat.le_of_ble_eq_true rfl, Nat.le_of_ble_eq_true rfl⟩) 0 rfl rfl rfl rfl hl.1 rfl (lv_room (Nat.le_of_ble_eq_true rfl)) dX3_isInsideAnother_75 ⟨Nat.zero_le _, Nat.zero_le _⟩ rfl ?_
        refine lv_iload hx hb dX3_isInsideAnother_78 (lv_at hl 5 rfl) ?_
        refine k_iadd hx hb dX3_isInsideAnother_80 ?_
        refine lv_iload_n hx hb dX3_isInsideAnother_81 rfl (lv_at hl 2 rfl) ?_
        obtain ⟨vz5, hcz, hs⟩ := bd1_some hs
        have hPc : va_P D vwCl [(q1, .inr (2, [.int (iI x_folding_on)])), (q2, .inl (cI, 1920, .inl (mI a_bytes))), (q2, .inl (cI, 1920, .inl (mI a_bytes)))] s.heap := hP.sub [1, 2, 2] rfl
        refine k_rV (As := [.ref q2, .int (iI vz3), .ref q2, .int (iI (vz4 + l5)), .int (iI l2)]) (rest := []) (st1 := [.int (iI vz5)]) ⟨hx, hb, hml, hown, hts⟩ hK hPc (c_X2_same l D cI cZ cJ (Nat.le_of_ble_eq_true rfl) (Nat.le_of_ble_eq_true rfl) hcz) (cwV 5 hts gX3_isInsideAnother_X2_same rfl rfl rfl (by decide +kernel) ⟨Nat.le_of_ble_eq_true rfl, Nat.le_of_ble_eq_true rfl⟩) 0 rfl rfl rfl rfl hl.1 rfl (lv_room (Nat.le_of_ble_eq_true rfl)) dX3_isInsideAnother_82 ⟨Nat.zero_le _, Nat.zero_le _⟩ rfl ?_
        refine k_if_eq (tgt := 90) hx hb hs dX3_isInsideAnother_85 (by decide) (fun hs => ?_) (fun hs => ?_)
        · refine k_iinc (x := l5) (k := 5) (lv' := [(5, .int (iI (l5 + 1))), (0, .ref q0), (1, .int (iI l1)), (2, .int (iI l2)), (3, .int (iI l3)), (4, .int (iI l4))]) hx hb dX3_isInsideAnother_90 hl rfl (by decide) rfl (fun ls hl => ?_)
          refine lv_goto (tgt := 49) hx hb dX3_isInsideAnother_93 (by decide) ?_
          exact ih l1 l2 l3 l4 (l5 + 1) outz hs ls (lv_sub hl [1, 2, 3, 4, 5, 0] rfl) kr kx
        · refine k_iconst (n := 1) hx hb dX3_isInsideAnother_88 ?_
          have hs := kr _ (Option.some.inj hs).symm
          cases hs
          exact k_zret_r hx hb hr hlk rfl (by decide) dX3_isInsideAnother_89 rfl
      · cases hs
        exact kx  rfl ls (lv_sub hl [0, 1, 2, 3] rfl)
  have Lz8 : ∀ (fu : Nat) (l1 : Int) (l2 : Int) (l3 : Int), s_X3_isInsideAnother_8 fu x_given x_folding_on a_bytes a_lengths a_lives l1 l2 l3 = some r → ∀ ls : Array Slot, lv_has ls 6 [(0, .ref q0), (1, .int (iI l1)), (2, .int (iI l2)), (3, .int (iI l3))] → W p l e (headSpec wsX3_isInsideAnother rm_X3_isInsideAnother).room s m args below meth c s.heap [] 0 0 (MQ below (QR (some (.int (iI r)))) args s 0 0 (fun _ => False)) (F0 m 8 ls []) := by
    intro fu
    induction fu with
    | zero => intro l1 l2 l3 hs; cases hs
    | succ fu ih =>
      intro l1 l2 l3 hs ls hl
      rw [s_X3_isInsideAnother_8_s] at hs
      refine lv_iload_n hx hb dX3_isInsideAnother_8 rfl (lv_at hl 3 rfl) ?_
      refine lv_aload_n hx hb dX3_isInsideAnother_9 rfl (lv_at hl 0 rfl) ?_
      refine va_get (ci := 3) (v := .int (iI x_given)) (C := RX3) (T := TX3) (N := 7) hx hb hts hiX3 hown hK hP 0 rfl rfl 5 (by decide) hf29 (fun _ h9 => h9) rfl dX3_isInsideAnother_10 ?_
      refine k_icmp_ge (tgt := 102) hx hb hs dX3_isInsideAnother_13 (by decide) (fun hs => ?_) (fun hs => ?_)
      · refine lv_aload_n hx hb dX3_isInsideAnother_16 rfl (lv_at hl 0 rfl) ?_
        refine va_get (ci := 3) (v := .ref q5) (C := RX3) (T := TX3) (N := 7) hx hb hts hiX3 hown hK hP 0 rfl rfl 4 (by decide) hf25 (fun _ h9 => h9) rfl dX3_isInsideAnother_17 ?_
        refine lv_iload_n hx hb dX3_isInsideAnother_20 rfl (lv_at hl 3 rfl) ?_
        refine k_zald hx hb hK hP 5 1 rfl rfl (Nat.le_of_ble_eq_true rfl) hs dX3_isInsideAnother_21 (fun vz2 hs => ?_)
        refine k_if_eq (tgt := 43) hx hb hs dX3_isInsideAnother_22 (by decide) (fun hs => ?_) (fun hs => ?_)
        · refine k_iconst (n := 0) hx hb dX3_isInsideAnother_43 ?_
          refine lv_istore (lv' := [(4, .int (iI 0)), (0, .ref q0), (1, .int (iI l1)), (2, .int (iI l2)), (3, .int (iI l3))]) hx hb dX3_isInsideAnother_44 hl (by decide) rfl (fun ls hl => ?_)
          refine k_iconst (n := 0) hx hb dX3_isInsideAnother_46 ?_
          refine lv_istore (lv' := [(5, .int (iI 0)), (4, .int (iI 0)), (0, .ref q0), (1, .int (iI l1)), (2, .int (iI l2)), (3, .int (iI l3))]) hx hb dX3_isInsideAnother_47 hl (by decide) rfl (fun ls hl => ?_)
          rcases bdS0_some hs with ⟨rz6, hq, hs⟩ | ⟨hq, hs⟩
          · refine Lz49 FU l1 l2 l3 0 0 (.inl rz6) hq ls (lv_sub hl [2, 3, 4, 5, 1, 0] rfl) (fun r9 h9 => by cases h9; exact Option.some.inj hs) (fun  h9 => by cases h9)
          · refine Lz49 FU l1 l2 l3 0 0 (.inr ()) hq ls (lv_sub hl [2, 3, 4, 5, 1, 0] rfl) (fun r9 h9 => by cases h9) ?_
            intro  h9 ls hl
            cases h9
            refine k_iinc (x := l3) (k := 3) (lv' := [(3, .int (iI (l3 + 1))), (0, .ref q0), (1, .int (iI l1)), (2, .int (iI l2))]) hx hb dX3_isInsideAnother_96 hl rfl (by decide) rfl (fun ls hl => ?_)
            refine lv_goto (tgt := 8) hx hb dX3_isInsideAnother_99 (by decide) ?_
            exact ih l1 l2 (l3 + 1)  hs ls (lv_sub hl [1, 2, 3, 0] rfl)
        · refine lv_iload_n hx hb dX3_isInsideAnother_25 rfl (lv_at hl 3 rfl) ?_
          refine lv_iload_n hx hb dX3_isInsideAnother_26 rfl (lv_at hl 1 rfl) ?_
          refine k_icmp_eq (tgt := 43) hx hb hs dX3_isInsideAnother_27 (by decide) (fun hs => ?_) (fun hs => ?_)
          · refine k_iconst (n := 0) hx hb dX3_isInsideAnother_43 ?_
            refine lv_istore (lv' := [(4, .int (iI 0)), (0, .ref q0), (1, .int (iI l1)), (2, .int (iI l2)), (3, .int (iI l3))]) hx hb dX3_isInsideAnother_44 hl (by decide) rfl (fun ls hl => ?_)
            refine k_iconst (n := 0) hx hb dX3_isInsideAnother_46 ?_
            refine lv_istore (lv' := [(5, .int (iI 0)), (4, .int (iI 0)), (0, .ref q0), (1, .int (iI l1)), (2, .int (iI l2)), (3, .int (iI l3))]) hx hb dX3_isInsideAnother_47 hl (by decide) rfl (fun ls hl => ?_)
            rcases bdS0_some hs with ⟨rz7, hq, hs⟩ | ⟨hq, hs⟩
            · refine Lz49 FU l1 l2 l3 0 0 (.inl rz7) hq ls (lv_sub hl [2, 3, 4, 5, 1, 0] rfl) (fun r9 h9 => by cases h9; exact Option.some.inj hs) (fun  h9 => by cases h9)
            · refine Lz49 FU l1 l2 l3 0 0 (.inr ()) hq ls (lv_sub hl [2, 3, 4, 5, 1, 0] rfl) (fun r9 h9 => by cases h9) ?_
              intro  h9 ls hl
              cases h9
              refine k_iinc (x := l3) (k := 3) (lv' := [(3, .int (iI (l3 + 1))), (0, .ref q0), (1, .int (iI l1)), (2, .int (iI l2))]) hx hb dX3_isInsideAnother_96 hl rfl (by decide) rfl (fun ls hl => ?_)
              refine lv_goto (tgt := 8) hx hb dX3_isInsideAnother_99 (by decide) ?_
              exact ih l1 l2 (l3 + 1)  hs ls (lv_sub hl [1, 2, 3, 0] rfl)
          · refine lv_aload_n hx hb dX3_isInsideAnother_30 rfl (lv_at hl 0 rfl) ?_
            refine va_get (ci := 3) (v := .ref q3) (C := RX3) (T := TX3) (N := 7) hx hb hts hiX3 hown hK hP 0 rfl rfl 2 (by decide) hf19 (fun _ h9 => h9) rfl dX3_isInsideAnother_31 ?_
            refine lv_iload_n hx hb dX3_isInsideAnother_34 rfl (lv_at hl 3 rfl) ?_
            refine k_iald hx hb hK hP 3 0 rfl rfl (Nat.le_of_ble_eq_true rfl) hs dX3_isInsideAnother_35 (fun vz8 hs => ?_)
            refine lv_iload_n hx hb dX3_isInsideAnother_36 rfl (lv_at hl 2 rfl) ?_
            refine k_isub hx hb dX3_isInsideAnother_37 ?_
            refine k_iconst (n := 1) hx hb dX3_isInsideAnother_38 ?_
            refine k_iadd hx hb dX3_isInsideAnother_39 ?_
            refine lv_goto (tgt := 44) hx hb dX3_isInsideAnother_40 (by decide) ?_
            refine lv_istore (lv' := [(4, .int (iI ((vz8 - l2) + 1))), (0, .ref q0), (1, .int (iI l1)), (2, .int (iI l2)), (3, .int (iI l3))]) hx hb dX3_isInsideAnother_44 hl (by decide) rfl (fun ls hl => ?_)
            refine k_iconst (n := 0) hx hb dX3_isInsideAnother_46 ?_
            refine lv_istore (lv' := [(5, .int (iI 0)), (4, .int (iI ((vz8 - l2) + 1))), (0, .ref q0), (1, .int (iI l1)), (2, .int (iI l2)), (3, .int (iI l3))]) hx hb dX3_isInsideAnother_47 hl (by decide) rfl (fun ls hl => ?_)
            rcases bdS0_some hs with ⟨rz9, hq, hs⟩ | ⟨hq, hs⟩
            · refine Lz49 FU l1 l2 l3 ((vz8 - l2) + 1) 0 (.inl rz9) hq ls (lv_sub hl [2, 3, 4, 5, 1, 0] rfl) (fun r9 h9 => by cases h9; exact Option.some.inj hs) (fun  h9 => by cases h9)
            · refine Lz49 FU l1 l2 l3 ((vz8 - l2) + 1) 0 (.inr ()) hq ls (lv_sub hl [2, 3, 4, 5, 1, 0] rfl) (fun r9 h9 => by cases h9) ?_
              intro  h9 ls hl
              cases h9
              refine k_iinc (x := l3) (k := 3) (lv' := [(3, .int (iI (l3 + 1))), (0, .ref q0), (1, .int (iI l1)), (2, .int (iI l2))]) hx hb dX3_isInsideAnother_96 hl rfl (by decide) rfl (fun ls hl => ?_)
              refine lv_goto (tgt := 8) hx hb dX3_isInsideAnother_99 (by decide) ?_
              exact ih l1 l2 (l3 + 1)  hs ls (lv_sub hl [1, 2, 3, 0] rfl)
      · refine k_iconst (n := 0) hx hb dX3_isInsideAnother_102 ?_
        cases hs
        exact k_zret_r hx hb hr hlk rfl (by decide) dX3_isInsideAnother_103 rfl
  refine lv_aload_n hx hb dX3_isInsideAnother_0 rfl (lv_at hl 0 rfl) ?_
  refine lv_iload_n hx hb dX3_isInsideAnother_1 rfl (lv_at hl 1 rfl) ?_
  obtain ⟨vz1, hcz, hs⟩ := bd1_some hs
  have hPc : va_P D vwCl [(q0, .inr (3, [.ref q1, .ref q2, .ref q3, .ref q4, .ref q5, .int (iI x_given), .int (iI x_alive)])), (q1, .inr (2, [.int (iI x_folding_on)])), (q2, .inl (cI, 1920, .inl (mI a_bytes))), (q3, .inl (cI, 120, .inl (mI a_lengths))), (q4, .inl (cI, 120, .inl (mI a_weights))), (q5, .inl (cZ, 120, .inl (mI a_lives)))] s.heap := hP.sub [0, 1, 2, 3, 4, 5] rfl
  refine k_rV (As := [.int (iI pz1)]) (rest := []) (st1 := [.int (iI vz1)]) ⟨hx, hb, hml, hown, hts⟩ hK hPc (c_X3_lengthOf l D cI cZ cJ hcz) (cwV 1 hts gX3_isInsideAnother_X3_lengthOf rfl rfl rfl (by decide +kernel) ⟨Nat.le_of_ble_eq_true rfl, Nat.le_of_ble_eq_true rfl⟩) 0 rfl rfl rfl rfl hl.1 rfl (lv_room (Nat.le_of_ble_eq_true rfl)) dX3_isInsideAnother_2 ⟨Nat.zero_le _, Nat.zero_le _⟩ rfl ?_
  refine lv_istore_n (lv' := [(2, .int (iI vz1)), (0, .ref q0), (1, .int (iI pz1))]) hx hb dX3_isInsideAnother_5 rfl hl (by decide) rfl (fun ls hl => ?_)
  refine k_iconst (n := 0) hx hb dX3_isInsideAnother_6 ?_
  refine lv_istore_n (lv' := [(3, .int (iI 0)), (2, .int (iI vz1)), (0, .ref q0), (1, .int (iI pz1))]) hx hb dX3_isInsideAnother_7 rfl hl (by decide) rfl (fun ls hl => ?_)
  exact Lz8 FU pz1 vz1 0 hs ls (lv_sub hl [2, 3, 1, 0] rfl)
/-! X4_clear -/
set_option maxHeartbeats 4000000 in
set_option maxRecDepth 100000 in
theorem c_X4_clear (l : Launch) (D : va_G) (cI cZ cJ : ClassId) {q0 q1 q2 : Nat} {n0 : Nat} {x_size : Int} {a_positions : (Int → Int)} {a_numbers : (Int → Int)} {y_x_size : Int} {sz : Nat} (hn0 : n0 ≤ 2147483647) (hs : s_X4_clear n0 x_size = some y_x_size) : Met l yX4_clear wsX4_clear rm_X4_clear (PW D vwCl [(cI, .int), (cZ, .boolean), (cJ, .long)] [.ref q0] [(q0, .inr (4, [.ref q1, .ref q2, .int (iI x_size)])), (q1, .inl (cI, n0, .inl (mI a_positions))), (q2, .inl (cI, n0, .inl (mI a_numbers)))] sz) (QW D vwCl none [(q0, .inr (4, [.ref q1, .ref q2, .int (iI y_x_size)])), (q1, .inl (cI, n0, .inl (mI a_positions))), (q2, .inl (cI, n0, .inl (mI a_numbers)))] (va_A [(q0, .inr (4, [.ref q1, .ref q2, .int (iI x_size)])), (q1, .inl (cI, n0, .inl (mI a_positions))), (q2, .inl (cI, n0, .inl (mI a_numbers)))] sz)) 0 0 (va_A [(q0, .inr (4, [.ref q1, .ref q2, .int (iI x_size)])), (q1, .inl (cI, n0, .inl (mI a_positions))), (q2, .inl (cI, n0, .inl (mI a_numbers)))] sz) := by
  refine Met.ofW (cc := cX4_clear) (maxL := 1) (ret := none) (by decide) rfl ?_
  intro p e s m args below meth c s₁ B hml hv
  obtain ⟨hav, hsz, hP, hK, hD0⟩ := hv
  have hx := B.exec
  have hb := B.bytes
  have hr := B.returns
  have hts := atoms_spec (ws := wsX4_clear) B.pre
  have hown : s.vm.findClass RX4 = some m.cls := findClass_of_methodNamed B.named
  have hlk := B.notSynchronized
  have hf24 : (Cond.fieldLink RX4 24 "KeywordMatcher$MatchList" "size" "I").before args s = true := hts _ (List.mem_of_getElem? (i := 1) rfl)
  have hiX4 : ∀ w ∈ wsX40, w ∈ wsX4_clear := fun w h => List.mem_cons_of_mem _ (List.mem_append_right _ h)
  subst hsz
  have hD := hD0.self (sz := s.heap.size)
  generalize hAe : va_A [(q0, .inr (4, [.ref q1, .ref q2, .int (iI x_size)])), (q1, .inl (cI, n0, .inl (mI a_positions))), (q2, .inl (cI, n0, .inl (mI a_numbers)))] s.heap.size = Az at hD ⊢
  have hA : ∀ q : Nat, s.heap.size ≤ q → Az q := fun q h => by rw [← hAe]; exact Or.inr h
  clear hAe
  have hSz : va_S Az s.heap s.heap [] := va_S.rf
  obtain ⟨wz, hw1⟩ : ∃ z : va_W, z = [(q0, .inr (4, [.ref q1, .ref q2, .int (iI y_x_size)])), (q1, .inl (cI, n0, .inl (mI a_positions))), (q2, .inl (cI, n0, .inl (mI a_numbers)))] := ⟨_, rfl⟩
  rw [← hw1]
  have hl := lv_entry ([.ref q0]) (n := 1) (Nat.le_of_ble_eq_true rfl)
  rw [show entryFrame m args 1 = entryFrame m ([.ref q0] : List Value).toArray 1 from by rw [hav], lg_entry_eq]
  generalize (lg_sl ([.ref q0]) ++ List.replicate (1 - (lg_sl ([.ref q0])).length) Slot.unset).toArray = ls at hl ⊢
  have hl : lv_has ls 1 [(0, .ref q0)] := hl
  unfold s_X4_clear at hs
  refine (?_ : ∀ (Hz : Heap) (lz : List Loc), va_P D vwCl [(q0, .inr (4, [.ref q1, .ref q2, .int (iI x_size)])), (q1, .inl (cI, n0, .inl (mI a_positions))), (q2, .inl (cI, n0, .inl (mI a_numbers)))] Hz → va_D Az [(q0, .inr (4, [.ref q1, .ref q2, .int (iI x_size)])), (q1, .inl (cI, n0, .inl (mI a_positions))), (q2, .inl (cI, n0, .inl (mI a_numbers)))] → va_S Az s.heap Hz lz → W p l e (headSpec wsX4_clear rm_X4_clear).room s m args below meth c Hz lz 0 0 (MQ below (QW D vwCl none wz Az) args s 0 0 Az) (F0 m 0 ls [])) s.heap [] hP hD hSz
  intro Hz lz hP hD hSz
  refine lv_aload_n hx hb dX4_clear_0 rfl (lv_at hl 0 rfl) ?_
  refine k_iconst (n := 0) hx hb dX4_clear_1 ?_
  refine va_put (ci := 4) (v := .int (iI 0)) (ty := .int) (C := RX4) (T := TX4) (N := 3) hx hb hts hiX4 tyX4 tyX4_ok nmX4 hown hK hP hD hSz 0 rfl rfl 2 (by decide) hf24 (fun _ h9 => h9) rfl (by decide +kernel) rfl rfl (Nat.le_of_ble_eq_true rfl) dX4_clear_2 (fun Hz lz hP hD hSz => ?_)
  have hP : va_P D vwCl [(q0, .inr (4, [.ref q1, .ref q2, .int (iI 0)])), (q1, .inl (cI, n0, .inl (mI a_positions))), (q2, .inl (cI, n0, .inl (mI a_numbers)))] Hz := hP
  have hD : va_D Az [(q0, .inr (4, [.ref q1, .ref q2, .int (iI 0)])), (q1, .inl (cI, n0, .inl (mI a_positions))), (q2, .inl (cI, n0, .inl (mI a_numbers)))] := hD
  cases hs
  exact k_vret_w hx hb hr hlk (by rw [hw1]; exact hP) hSz dX4_clear_5 rfl
/-! X4_add -/
set_option maxHeartbeats 4000000 in
set_option maxRecDepth 100000 in
theorem c_X4_add (l : Launch) (D : va_G) (cI cZ cJ : ClassId) {q0 q1 q2 : Nat} {n0 : Nat} {x_size : Int} {a_positions : (Int → Int)} {a_numbers : (Int → Int)} {pz1 : Int} {pz2 : Int} {y_x_size : Int} {y_a_positions : (Int → Int)} {y_a_numbers : (Int → Int)} {sz : Nat} (hn0 : n0 ≤ 2147483647) (hs : s_X4_add n0 x_size a_positions a_numbers pz1 pz2 = some (y_x_size, y_a_positions, y_a_numbers)) : Met l yX4_add wsX4_add rm_X4_add (PW D vwCl [(cI, .int), (cZ, .boolean), (cJ, .long)] [.ref q0, .int (iI pz1), .int (iI pz2)] [(q0, .inr (4, [.ref q1, .ref q2, .int (iI x_size)])), (q1, .inl (cI, n0, .inl (mI a_positions))), (q2, .inl (cI, n0, .inl (mI a_numbers)))] sz) (QW D vwCl none [(q0, .inr (4, [.ref q1, .ref q2, .int (iI y_x_size)])), (q1, .inl (cI, n0, .inl (mI y_a_positions))), (q2, .inl (cI, n0, .inl (mI y_a_numbers)))] (va_A [(q0, .inr (4, [.ref q1, .ref q2, .int (iI x_size)])), (q1, .inl (cI, n0, .inl (mI a_positions))), (q2, .inl (cI, n0, .inl (mI a_numbers)))] sz)) 0 0 (va_A [(q0, .inr (4, [.ref q1, .ref q2, .int (iI x_size)])), (q1, .inl (cI, n0, .inl (mI a_positions))), (q2, .inl (cI, n0, .inl (mI a_numbers)))] sz) := by
  refine Met.ofW (cc := cX4_add) (maxL := 3) (ret := none) (by decide) rfl ?_
  intro p e s m args below meth c s₁ B hml hv
  obtain ⟨hav, hsz, hP, hK, hD0⟩ := hv
  have hx := B.exec
  have hb := B.bytes
  have hr := B.returns
  have hts := atoms_spec (ws := wsX4_add) B.pre
  have hown : s.vm.findClass RX4 = some m.cls := findClass_of_methodNamed B.named
  have hlk := B.notSynchronized
  have hf24 : (Cond.fieldLink RX4 24 "KeywordMatcher$MatchList" "size" "I").before args s = true := hts _ (List.mem_of_getElem? (i := 1) rfl)
  have hiX4 : ∀ w ∈ wsX40, w ∈ wsX4_add := fun w h => List.mem_cons_of_mem _ (List.mem_append_right _ h)
  have hf15 : (Cond.fieldLink RX4 15 "KeywordMatcher$MatchList" "positions" "[I").before args s = true := hts _ (List.mem_of_getElem? (i := 2) rfl)
  have hf21 : (Cond.fieldLink RX4 21 "KeywordMatcher$MatchList" "numbers" "[I").before args s = true := hts _ (List.mem_of_getElem? (i := 3) rfl)
  subst hsz
  have hD := hD0.self (sz := s.heap.size)
  generalize hAe : va_A [(q0, .inr (4, [.ref q1, .ref q2, .int (iI x_size)])), (q1, .inl (cI, n0, .inl (mI a_positions))), (q2, .inl (cI, n0, .inl (mI a_numbers)))] s.heap.size = Az at hD ⊢
  have hA : ∀ q : Nat, s.heap.size ≤ q → Az q := fun q h => by rw [← hAe]; exact Or.inr h
  clear hAe
  have hSz : va_S Az s.heap s.heap [] := va_S.rf
  obtain ⟨wz, hw1⟩ : ∃ z : va_W, z = [(q0, .inr (4, [.ref q1, .ref q2, .int (iI y_x_size)])), (q1, .inl (cI, n0, .inl (mI y_a_positions))), (q2, .inl (cI, n0, .inl (mI y_a_numbers)))] := ⟨_, rfl⟩
  rw [← hw1]
  have hl := lv_entry ([.ref q0, .int (iI pz1), .int (iI pz2)]) (n := 3) (Nat.le_of_ble_eq_true rfl)
  rw [show entryFrame m args 3 = entryFrame m ([.ref q0, .int (iI pz1), .int (iI pz2)] : List Value).toArray 3 from by rw [hav], lg_entry_eq]
  generalize (lg_sl ([.ref q0, .int (iI pz1), .int (iI pz2)]) ++ List.replicate (3 - (lg_sl ([.ref q0, .int (iI pz1), .int (iI pz2)])).length) Slot.unset).toArray = ls at hl ⊢
  have hl : lv_has ls 3 [(0, .ref q0), (1, .int (iI pz1)), (2, .int (iI pz2))] := hl
  unfold s_X4_add at hs
  refine (?_ : ∀ (Hz : Heap) (lz : List Loc), va_P D vwCl [(q0, .inr (4, [.ref q1, .ref q2, .int (iI x_size)])), (q1, .inl (cI, n0, .inl (mI a_positions))), (q2, .inl (cI, n0, .inl (mI a_numbers)))] Hz → va_D Az [(q0, .inr (4, [.ref q1, .ref q2, .int (iI x_size)])), (q1, .inl (cI, n0, .inl (mI a_positions))), (q2, .inl (cI, n0, .inl (mI a_numbers)))] → va_S Az s.heap Hz lz → W p l e (headSpec wsX4_add rm_X4_add).room s m args below meth c Hz lz 0 0 (MQ below (QW D vwCl none wz Az) args s 0 0 Az) (F0 m 0 ls [])) s.heap [] hP hD hSz
  intro Hz lz hP hD hSz
  refine lv_aload_n hx hb dX4_add_0 rfl (lv_at hl 0 rfl) ?_
  refine va_get (ci := 4) (v := .int (iI x_size)) (C := RX4) (T := TX4) (N := 3) hx hb hts hiX4 hown hK hP 0 rfl rfl 2 (by decide) hf24 (fun _ h9 => h9) rfl dX4_add_1 ?_
  refine lv_aload_n hx hb dX4_add_4 rfl (lv_at hl 0 rfl) ?_
  refine va_get (ci := 4) (v := .ref q1) (C := RX4) (T := TX4) (N := 3) hx hb hts hiX4 hown hK hP 0 rfl rfl 0 (by decide) hf15 (fun _ h9 => h9) rfl dX4_add_5 ?_
  refine va_alen (v := iI ((n0 : Nat) : Int)) hx hb hK hP 1 0 rfl rfl (iI_nat _) dX4_add_8 ?_
  refine k_icmp_ge (tgt := 54) hx hb hs dX4_add_9 (by decide) (fun hs => ?_) (fun hs => ?_)
  · refine lv_aload_n hx hb dX4_add_12 rfl (lv_at hl 0 rfl) ?_
    refine va_get (ci := 4) (v := .int (iI x_size)) (C := RX4) (T := TX4) (N := 3) hx hb hts hiX4 hown hK hP 0 rfl rfl 2 (by decide) hf24 (fun _ h9 => h9) rfl dX4_add_13 ?_
    refine lv_aload_n hx hb dX4_add_16 rfl (lv_at hl 0 rfl) ?_
    refine va_get (ci := 4) (v := .ref q2) (C := RX4) (T := TX4) (N := 3) hx hb hts hiX4 hown hK hP 0 rfl rfl 1 (by decide) hf21 (fun _ h9 => h9) rfl dX4_add_17 ?_
    refine va_alen (v := iI ((n0 : Nat) : Int)) hx hb hK hP 2 0 rfl rfl (iI_nat _) dX4_add_20 ?_
    refine k_icmp_ge (tgt := 54) hx hb hs dX4_add_21 (by decide) (fun hs => ?_) (fun hs => ?_)
    · refine lv_aload_n hx hb dX4_add_24 rfl (lv_at hl 0 rfl) ?_
      refine va_get (ci := 4) (v := .ref q1) (C := RX4) (T := TX4) (N := 3) hx hb hts hiX4 hown hK hP 0 rfl rfl 0 (by decide) hf15 (fun _ h9 => h9) rfl dX4_add_25 ?_
      refine lv_aload_n hx hb dX4_add_28 rfl (lv_at hl 0 rfl) ?_
      refine va_get (ci := 4) (v := .int (iI x_size)) (C := RX4) (T := TX4) (N := 3) hx hb hts hiX4 hown hK hP 0 rfl rfl 2 (by decide) hf24 (fun _ h9 => h9) rfl dX4_add_29 ?_
      refine lv_iload_n hx hb dX4_add_32 rfl (lv_at hl 1 rfl) ?_
      refine k_iast hx hb hK hP hD hSz 1 0 rfl rfl hn0 hs dX4_add_33 (fun Hz lz hP hD hSz hs => ?_)
      have hP : va_P D vwCl [(q0, .inr (4, [.ref q1, .ref q2, .int (iI x_size)])), (q1, .inl (cI, n0, .inl (mI (upA a_positions x_size pz1)))), (q2, .inl (cI, n0, .inl (mI a_numbers)))] Hz := hP
      have hD : va_D Az [(q0, .inr (4, [.ref q1, .ref q2, .int (iI x_size)])), (q1, .inl (cI, n0, .inl (mI (upA a_positions x_size pz1)))), (q2, .inl (cI, n0, .inl (mI a_numbers)))] := hD
      refine lv_aload_n hx hb dX4_add_34 rfl (lv_at hl 0 rfl) ?_
      refine va_get (ci := 4) (v := .ref q2) (C := RX4) (T := TX4) (N := 3) hx hb hts hiX4 hown hK hP 0 rfl rfl 1 (by decide) hf21 (fun _ h9 => h9) rfl dX4_add_35 ?_
      refine lv_aload_n hx hb dX4_add_38 rfl (lv_at hl 0 rfl) ?_
      refine va_get (ci := 4) (v := .int (iI x_size)) (C := RX4) (T := TX4) (N := 3) hx hb hts hiX4 hown hK hP 0 rfl rfl 2 (by decide) hf24 (fun _ h9 => h9) rfl dX4_add_39 ?_
      refine lv_iload_n hx hb dX4_add_42 rfl (lv_at hl 2 rfl) ?_
      refine k_iast hx hb hK hP hD hSz 2 0 rfl rfl hn0 hs dX4_add_43 (fun Hz lz hP hD hSz hs => ?_)
      have hP : va_P D vwCl [(q0, .inr (4, [.ref q1, .ref q2, .int (iI x_size)])), (q1, .inl (cI, n0, .inl (mI (upA a_positions x_size pz1)))), (q2, .inl (cI, n0, .inl (mI (upA a_numbers x_size pz2))))] Hz := hP
      have hD : va_D Az [(q0, .inr (4, [.ref q1, .ref q2, .int (iI x_size)])), (q1, .inl (cI, n0, .inl (mI (upA a_positions x_size pz1)))), (q2, .inl (cI, n0, .inl (mI (upA a_numbers x_size pz2))))] := hD
      refine lv_aload_n hx hb dX4_add_44 rfl (lv_at hl 0 rfl) ?_
      refine lv_dup hx hb dX4_add_45 rfl ?_
      refine va_get (ci := 4) (v := .int (iI x_size)) (C := RX4) (T := TX4) (N := 3) hx hb hts hiX4 hown hK hP 0 rfl rfl 2 (by decide) hf24 (fun _ h9 => h9) rfl dX4_add_46 ?_
      refine k_iconst (n := 1) hx hb dX4_add_49 ?_
      refine k_iadd hx hb dX4_add_50 ?_
      refine va_put (ci := 4) (v := .int (iI (x_size + 1))) (ty := .int) (C := RX4) (T := TX4) (N := 3) hx hb hts hiX4 tyX4 tyX4_ok nmX4 hown hK hP hD hSz 0 rfl rfl 2 (by decide) hf24 (fun _ h9 => h9) rfl (by decide +kernel) rfl rfl (Nat.le_of_ble_eq_true rfl) dX4_add_51 (fun Hz lz hP hD hSz => ?_)
      have hP : va_P D vwCl [(q0, .inr (4, [.ref q1, .ref q2, .int (iI (x_size + 1))])), (q1, .inl (cI, n0, .inl (mI (upA a_positions x_size pz1)))), (q2, .inl (cI, n0, .inl (mI (upA a_numbers x_size pz2))))] Hz := hP
      have hD : va_D Az [(q0, .inr (4, [.ref q1, .ref q2, .int (iI (x_size + 1))])), (q1, .inl (cI, n0, .inl (mI (upA a_positions x_size pz1)))), (q2, .inl (cI, n0, .inl (mI (upA a_numbers x_size pz2))))] := hD
      cases hs
      exact k_vret_w hx hb hr hlk (by rw [hw1]; exact hP) hSz dX4_add_54 rfl
    · cases hs
      exact k_vret_w hx hb hr hlk (by rw [hw1]; exact hP) hSz dX4_add_54 rfl
  · cases hs
    exact k_vret_w hx hb hr hlk (by rw [hw1]; exact hP) hSz dX4_add_54 rfl
/-! X4_positionAt -/
set_option maxHeartbeats 4000000 in
set_option maxRecDepth 100000 in
theorem c_X4_positionAt (l : Launch) (D : va_G) (cI cZ cJ : ClassId) {q0 q1 q2 : Nat} {n0 : Nat} {x_size : Int} {a_positions : (Int → Int)} {a_numbers : (Int → Int)} {pz1 : Int} {r : Int} (hn0 : n0 ≤ 2147483647) (hs : s_X4_positionAt n0 x_size a_positions pz1 = some r) : Met l yX4_positionAt wsX4_positionAt rm_X4_positionAt (PR D vwCl [(cI, .int), (cZ, .boolean), (cJ, .long)] [.ref q0, .int (iI pz1)] [(q0, .inr (4, [.ref q1, .ref q2, .int (iI x_size)])), (q1, .inl (cI, n0, .inl (mI a_positions))), (q2, .inl (cI, n0, .inl (mI a_numbers)))]) (QR (some (.int (iI r)))) 0 0 (fun _ => False) := by
  refine Met.ofW (cc := cX4_positionAt) (maxL := 2) (ret := (some .int)) (by decide) rfl ?_
  intro p e s m args below meth c s₁ B hml hv
  obtain ⟨hav, hP, hK⟩ := hv
  have hx := B.exec
  have hb := B.bytes
  have hr := B.returns
  have hts := atoms_spec (ws := wsX4_positionAt) B.pre
  have hown : s.vm.findClass RX4 = some m.cls := findClass_of_methodNamed B.named
  have hlk := B.notSynchronized
  have hf24 : (Cond.fieldLink RX4 24 "KeywordMatcher$MatchList" "size" "I").before args s = true := hts _ (List.mem_of_getElem? (i := 1) rfl)
  have hiX4 : ∀ w ∈ wsX40, w ∈ wsX4_positionAt := fun w h => List.mem_cons_of_mem _ (List.mem_append_right _ h)
  have hf15 : (Cond.fieldLink RX4 15 "KeywordMatcher$MatchList" "positions" "[I").before args s = true := hts _ (List.mem_of_getElem? (i := 2) rfl)
  have hl := lv_entry ([.ref q0, .int (iI pz1)]) (n := 2) (Nat.le_of_ble_eq_true rfl)
  rw [show entryFrame m args 2 = entryFrame m ([.ref q0, .int (iI pz1)] : List Value).toArray 2 from by rw [hav], lg_entry_eq]
  generalize (lg_sl ([.ref q0, .int (iI pz1)]) ++ List.replicate (2 - (lg_sl ([.ref q0, .int (iI pz1)])).length) Slot.unset).toArray = ls at hl ⊢
  have hl : lv_has ls 2 [(0, .ref q0), (1, .int (iI pz1))] := hl
  unfold s_X4_positionAt at hs
  refine lv_iload_n hx hb dX4_positionAt_0 rfl (lv_at hl 1 rfl) ?_
  refine k_if_lt (tgt := 21) hx hb hs dX4_positionAt_1 (by decide) (fun hs => ?_) (fun hs => ?_)
  · refine k_iconst (n := (-1)) hx hb dX4_positionAt_21 ?_
    cases hs
    exact k_iret_r hx hb hr hlk rfl dX4_positionAt_22 rfl
  · refine lv_iload_n hx hb dX4_positionAt_4 rfl (lv_at hl 1 rfl) ?_
    refine lv_aload_n hx hb dX4_positionAt_5 rfl (lv_at hl 0 rfl) ?_
    refine va_get (ci := 4) (v := .int (iI x_size)) (C := RX4) (T := TX4) (N := 3) hx hb hts hiX4 hown hK hP 0 rfl rfl 2 (by decide) hf24 (fun _ h9 => h9) rfl dX4_positionAt_6 ?_
    refine k_icmp_ge (tgt := 21) hx hb hs dX4_positionAt_9 (by decide) (fun hs => ?_) (fun hs => ?_)
    · refine lv_aload_n hx hb dX4_positionAt_12 rfl (lv_at hl 0 rfl) ?_
      refine va_get (ci := 4) (v := .ref q1) (C := RX4) (T := TX4) (N := 3) hx hb hts hiX4 hown hK hP 0 rfl rfl 0 (by decide) hf15 (fun _ h9 => h9) rfl dX4_positionAt_13 ?_
      refine lv_iload_n hx hb dX4_positionAt_16 rfl (lv_at hl 1 rfl) ?_
      refine k_iald hx hb hK hP 1 0 rfl rfl hn0 hs dX4_positionAt_17 (fun vz1 hs => ?_)
      refine lv_goto (tgt := 22) hx hb dX4_positionAt_18 (by decide) ?_
      cases hs
      exact k_iret_r hx hb hr hlk rfl dX4_positionAt_22 rfl
    · refine k_iconst (n := (-1)) hx hb dX4_positionAt_21 ?_
      cases hs
      exact k_iret_r hx hb hr hlk rfl dX4_positionAt_22 rfl
/-! X4_keywordAt -/
set_option maxHeartbeats 4000000 in
set_option maxRecDepth 100000 in
theorem c_X4_keywordAt (l : Launch) (D : va_G) (cI cZ cJ : ClassId) {q0 q1 q2 : Nat} {n0 : Nat} {x_size : Int} {a_positions : (Int → Int)} {a_numbers : (Int → Int)} {pz1 : Int} {r : Int} (hn0 : n0 ≤ 2147483647) (hs : s_X4_keywordAt n0 x_size a_numbers pz1 = some r) : Met l yX4_keywordAt wsX4_keywordAt rm_X4_keywordAt (PR D vwCl [(cI, .int), (cZ, .boolean), (cJ, .long)] [.ref q0, .int (iI pz1)] [(q0, .inr (4, [.ref q1, .ref q2, .int (iI x_size)])), (q1, .inl (cI, n0, .inl (mI a_positions))), (q2, .inl (cI, n0, .inl (mI a_numbers)))]) (QR (some (.int (iI r)))) 0 0 (fun _ => False) := by
  refine Met.ofW (cc := cX4_keywordAt) (maxL := 2) (ret := (some .int)) (by decide) rfl ?_
  intro p e s m args below meth c s₁ B hml hv
  obtain ⟨hav, hP, hK⟩ := hv
  have hx := B.exec
  have hb := B.bytes
  have hr := B.returns
  have hts := atoms_spec (ws := wsX4_keywordAt) B.pre
  have hown : s.vm.findClass RX4 = some m.cls := findClass_of_methodNamed B.named
  have hlk := B.notSynchronized
  have hf24 : (Cond.fieldLink RX4 24 "KeywordMatcher$MatchList" "size" "I").before args s = true := hts _ (List.mem_of_getElem? (i := 1) rfl)
  have hiX4 : ∀ w ∈ wsX40, w ∈ wsX4_keywordAt := fun w h => List.mem_cons_of_mem _ (List.mem_append_right _ h)
  have hf21 : (Cond.fieldLink RX4 21 "KeywordMatcher$MatchList" "numbers" "[I").before args s = true := hts _ (List.mem_of_getElem? (i := 2) rfl)
  have hl := lv_entry ([.ref q0, .int (iI pz1)]) (n := 2) (Nat.le_of_ble_eq_true rfl)
  rw [show entryFrame m args 2 = entryFrame m ([.ref q0, .int (iI pz1)] : List Value).toArray 2 from by rw [hav], lg_entry_eq]
  generalize (lg_sl ([.ref q0, .int (iI pz1)]) ++ List.replicate (2 - (lg_sl ([.ref q0, .int (iI pz1)])).length) Slot.unset).toArray = ls at hl ⊢
  have hl : lv_has ls 2 [(0, .ref q0), (1, .int (iI pz1))] := hl
  unfold s_X4_keywordAt at hs
  refine lv_iload_n hx hb dX4_keywordAt_0 rfl (lv_at hl 1 rfl) ?_
  refine k_if_lt (tgt := 21) hx hb hs dX4_keywordAt_1 (by decide) (fun hs => ?_) (fun hs => ?_)
  · refine k_iconst (n := (-1)) hx hb dX4_keywordAt_21 ?_
    cases hs
    exact k_iret_r hx hb hr hlk rfl dX4_keywordAt_22 rfl
  · refine lv_iload_n hx hb dX4_keywordAt_4 rfl (lv_at hl 1 rfl) ?_
    refine lv_aload_n hx hb dX4_keywordAt_5 rfl (lv_at hl 0 rfl) ?_
    refine va_get (ci := 4) (v := .int (iI x_size)) (C := RX4) (T := TX4) (N := 3) hx hb hts hiX4 hown hK hP 0 rfl rfl 2 (by decide) hf24 (fun _ h9 => h9) rfl dX4_keywordAt_6 ?_
    refine k_icmp_ge (tgt := 21) hx hb hs dX4_keywordAt_9 (by decide) (fun hs => ?_) (fun hs => ?_)
    · refine lv_aload_n hx hb dX4_keywordAt_12 rfl (lv_at hl 0 rfl) ?_
      refine va_get (ci := 4) (v := .ref q2) (C := RX4) (T := TX4) (N := 3) hx hb hts hiX4 hown hK hP 0 rfl rfl 1 (by decide) hf21 (fun _ h9 => h9) rfl dX4_keywordAt_13 ?_
      refine lv_iload_n hx hb dX4_keywordAt_16 rfl (lv_at hl 1 rfl) ?_
      refine k_iald hx hb hK hP 2 0 rfl rfl hn0 hs dX4_keywordAt_17 (fun vz1 hs => ?_)
      refine lv_goto (tgt := 22) hx hb dX4_keywordAt_18 (by decide) ?_
      cases hs
      exact k_iret_r hx hb hr hlk rfl dX4_keywordAt_22 rfl
    · refine k_iconst (n := (-1)) hx hb dX4_keywordAt_21 ?_
      cases hs
      exact k_iret_r hx hb hr hlk rfl dX4_keywordAt_22 rfl
/-! X5_clear -/
set_option maxHeartbeats 4000000 in
set_option maxRecDepth 100000 in
theorem c_X5_clear (l : Launch) (D : va_G) (cI cZ cJ : ClassId) {q0 q1 : Nat} {a_words : (Int → Int)} {y_a_words : (Int → Int)} {sz : Nat} (hs : s_X5_clear a_words = some y_a_words) : Met l yX5_clear wsX5_clear rm_X5_clear (PW D vwCl [(cI, .int), (cZ, .boolean), (cJ, .long)] [.ref q0] [(q0, .inr (5, [.ref q1])), (q1, .inl (cJ, 1200, .inr (.inl (mL a_words))))] sz) (QW D vwCl none [(q0, .inr (5, [.ref q1])), (q1, .inl (cJ, 1200, .inr (.inl (mL y_a_words))))] (va_A [(q0, .inr (5, [.ref q1])), (q1, .inl (cJ, 1200, .inr (.inl (mL a_words))))] sz)) 0 0 (va_A [(q0, .inr (5, [.ref q1])), (q1, .inl (cJ, 1200, .inr (.inl (mL a_words))))] sz) := by
  refine Met.ofW (cc := cX5_clear) (maxL := 1) (ret := none) (by decide) rfl ?_
  intro p e s m args below meth c s₁ B hml hv
  obtain ⟨hav, hsz, hP, hK, hD0⟩ := hv
  have hx := B.exec
  have hb := B.bytes
  have hr := B.returns
  have hts := atoms_spec (ws := wsX5_clear) B.pre
  have hown : s.vm.findClass RX5 = some m.cls := findClass_of_methodNamed B.named
  have hlk := B.notSynchronized
  have hf9 : (Cond.fieldLink RX5 9 "KeywordMatcher$MatchTable" "words" "[J").before args s = true := hts _ (List.mem_of_getElem? (i := 1) rfl)
  have hiX5 : ∀ w ∈ wsX50, w ∈ wsX5_clear := fun w h => List.mem_cons_of_mem _ (List.mem_append_right _ h)
  subst hsz
  have hD := hD0.self (sz := s.heap.size)
  generalize hAe : va_A [(q0, .inr (5, [.ref q1])), (q1, .inl (cJ, 1200, .inr (.inl (mL a_words))))] s.heap.size = Az at hD ⊢
  have hA : ∀ q : Nat, s.heap.size ≤ q → Az q := fun q h => by rw [← hAe]; exact Or.inr h
  clear hAe
  have hSz : va_S Az s.heap s.heap [] := va_S.rf
  obtain ⟨wz, hw1⟩ : ∃ z : va_W, z = [(q0, .inr (5, [.ref q1])), (q1, .inl (cJ, 1200, .inr (.inl (mL y_a_words))))] := ⟨_, rfl⟩
  rw [← hw1]
  have hl := lv_entry ([.ref q0]) (n := 1) (Nat.le_of_ble_eq_true rfl)
  rw [show entryFrame m args 1 = entryFrame m ([.ref q0] : List Value).toArray 1 from by rw [hav], lg_entry_eq]
  generalize (lg_sl ([.ref q0]) ++ List.replicate (1 - (lg_sl ([.ref q0])).length) Slot.unset).toArray = ls at hl ⊢
  have hl : lv_has ls 1 [(0, .ref q0)] := hl
  unfold s_X5_clear at hs
  refine (?_ : ∀ (Hz : Heap) (lz : List Loc), va_P D vwCl [(q0, .inr (5, [.ref q1])), (q1, .inl (cJ, 1200, .inr (.inl (mL a_words))))] Hz → va_D Az [(q0, .inr (5, [.ref q1])), (q1, .inl (cJ, 1200, .inr (.inl (mL a_words))))] → va_S Az s.heap Hz lz → W p l e (headSpec wsX5_clear rm_X5_clear).room s m args below meth c Hz lz 0 0 (MQ below (QW D vwCl none wz Az) args s 0 0 Az) (F0 m 0 ls [])) s.heap [] hP hD hSz
  intro Hz lz hP hD hSz
  refine lv_aload_n hx hb dX5_clear_0 rfl (lv_at hl 0 rfl) ?_
  refine va_get (ci := 5) (v := .ref q1) (C := RX5) (T := TX5) (N := 1) hx hb hts hiX5 hown hK hP 0 rfl rfl 0 (by decide) hf9 (fun _ h9 => h9) rfl dX5_clear_1 ?_
  refine k_lconst (v := 0) hx hb (by decide) dX5_clear_4 ?_
  obtain ⟨vz1, hcz, hs⟩ := bd1_some hs
  refine k_wS (As := [.ref q1, .long (iL 0)]) (rest := []) (st1 := []) (wc := [(q1, .inl (cJ, 1200, .inr (.inl (mL a_words))))]) (w1 := [(q1, .inl (cJ, 1200, .inr (.inl (mL vz1))))]) ⟨hx, hb, hml, hown, hts⟩ hK hP hD hSz hA [1] rfl (by decide) (c_J7_fill_d0a16 l D cI cZ cJ (Nat.le_of_ble_eq_true rfl) hcz) (va_cwS 2 hts gX5_clear_J7_fill_d0a16 rfl rfl rfl (by decide +kernel) ⟨Nat.le_of_ble_eq_true rfl, Nat.le_of_ble_eq_true rfl⟩) rfl rfl hl.1 rfl (lv_room (Nat.le_of_ble_eq_true rfl)) dX5_clear_5 ⟨Nat.zero_le _, Nat.zero_le _⟩ rfl (fun Hz lz hP hD hSz => ?_)
  have hP : va_P D vwCl [(q0, .inr (5, [.ref q1])), (q1, .inl (cJ, 1200, .inr (.inl (mL vz1))))] Hz := hP
  have hD : va_D Az [(q0, .inr (5, [.ref q1])), (q1, .inl (cJ, 1200, .inr (.inl (mL vz1))))] := hD
  cases hs
  exact k_vret_w hx hb hr hlk (by rw [hw1]; exact hP) hSz dX5_clear_8 rfl
/-! X5_isCell -/
set_option maxHeartbeats 4000000 in
set_option maxRecDepth 100000 in
theorem c_X5_isCell (l : Launch) (D : va_G) (cI cZ cJ : ClassId) {pz0 : Int} {pz1 : Int} {r : Int} (hs : s_X5_isCell pz0 pz1 = some r) : Met l yX5_isCell wsX5_isCell rm_X5_isCell (PR D vwCl [(cI, .int), (cZ, .boolean), (cJ, .long)] [.int (iI pz0), .int (iI pz1)] []) (QR (some (.int (iI r)))) 0 0 (fun _ => False) := by
  refine Met.ofW (cc := cX5_isCell) (maxL := 2) (ret := (some .boolean)) (by decide) rfl ?_
  intro p e s m args below meth c s₁ B hml hv
  obtain ⟨hav, hP, hK⟩ := hv
  have hx := B.exec
  have hb := B.bytes
  have hr := B.returns
  have hts := atoms_spec (ws := wsX5_isCell) B.pre
  have hown : s.vm.findClass RX5 = some m.cls := findClass_of_methodNamed B.named
  have hlk := B.notSynchronized
  have hl := lv_entry ([.int (iI pz0), .int (iI pz1)]) (n := 2) (Nat.le_of_ble_eq_true rfl)
  rw [show entryFrame m args 2 = entryFrame m ([.int (iI pz0), .int (iI pz1)] : List Value).toArray 2 from by rw [hav], lg_entry_eq]
  generalize (lg_sl ([.int (iI pz0), .int (iI pz1)]) ++ List.replicate (2 - (lg_sl ([.int (iI pz0), .int (iI pz1)])).length) Slot.unset).toArray = ls at hl ⊢
  have hl : lv_has ls 2 [(0, .int (iI pz0)), (1, .int (iI pz1))] := hl
  unfold s_X5_isCell at hs
  refine lv_iload_n hx hb dX5_isCell_0 rfl (lv_at hl 0 rfl) ?_
  refine k_if_lt (tgt := 26) hx hb hs dX5_isCell_1 (by decide) (fun hs => ?_) (fun hs => ?_)
  · refine k_iconst (n := 0) hx hb dX5_isCell_26 ?_
    cases hs
    exact k_zret_r hx hb hr hlk rfl (by decide) dX5_isCell_27 rfl
  · refine lv_iload_n hx hb dX5_isCell_4 rfl (lv_at hl 0 rfl) ?_
    refine k_sipush (n := 600) hx hb (by decide) dX5_isCell_5 ?_
    refine k_icmp_ge (tgt := 26) hx hb hs dX5_isCell_8 (by decide) (fun hs => ?_) (fun hs => ?_)
    · refine lv_iload_n hx hb dX5_isCell_11 rfl (lv_at hl 1 rfl) ?_
      refine k_iconst (n := 1) hx hb dX5_isCell_12 ?_
      refine k_icmp_lt (tgt := 26) hx hb hs dX5_isCell_13 (by decide) (fun hs => ?_) (fun hs => ?_)
      · refine k_iconst (n := 0) hx hb dX5_isCell_26 ?_
        cases hs
        exact k_zret_r hx hb hr hlk rfl (by decide) dX5_isCell_27 rfl
      · refine lv_iload_n hx hb dX5_isCell_16 rfl (lv_at hl 1 rfl) ?_
        refine k_bipush (n := 16) hx hb (by decide) dX5_isCell_17 ?_
        refine k_icmp_gt (tgt := 26) hx hb hs dX5_isCell_19 (by decide) (fun hs => ?_) (fun hs => ?_)
        · refine k_iconst (n := 0) hx hb dX5_isCell_26 ?_
          cases hs
          exact k_zret_r hx hb hr hlk rfl (by decide) dX5_isCell_27 rfl
        · refine k_iconst (n := 1) hx hb dX5_isCell_22 ?_
          refine lv_goto (tgt := 27) hx hb dX5_isCell_23 (by decide) ?_
          cases hs
          exact k_zret_r hx hb hr hlk rfl (by decide) dX5_isCell_27 rfl
    · refine k_iconst (n := 0) hx hb dX5_isCell_26 ?_
      cases hs
      exact k_zret_r hx hb hr hlk rfl (by decide) dX5_isCell_27 rfl
/-! X5_at -/
set_option maxHeartbeats 4000000 in
set_option maxRecDepth 100000 in
theorem c_X5_at (l : Launch) (D : va_G) (cI cZ cJ : ClassId) {q0 q1 : Nat} {a_words : (Int → Int)} {pz1 : Int} {pz2 : Int} {r : Int} (hs : s_X5_at a_words pz1 pz2 = some r) : Met l yX5_at wsX5_at rm_X5_at (PR D vwCl [(cI, .int), (cZ, .boolean), (cJ, .long)] [.ref q0, .int (iI pz1), .int (iI pz2)] [(q0, .inr (5, [.ref q1])), (q1, .inl (cJ, 1200, .inr (.inl (mL a_words))))]) (QR (some (.int (iI r)))) 0 0 (fun _ => False) := by
  refine Met.ofW (cc := cX5_at) (maxL := 4) (ret := (some .int)) (by decide) rfl ?_
  intro p e s m args below meth c s₁ B hml hv
  obtain ⟨hav, hP, hK⟩ := hv
  have hx := B.exec
  have hb := B.bytes
  have hr := B.returns
  have hts := atoms_spec (ws := wsX5_at) B.pre
  have hown : s.vm.findClass RX5 = some m.cls := findClass_of_methodNamed B.named
  have hlk := B.notSynchronized
  have hf9 : (Cond.fieldLink RX5 9 "KeywordMatcher$MatchTable" "words" "[J").before args s = true := hts _ (List.mem_of_getElem? (i := 1) rfl)
  have hiX5 : ∀ w ∈ wsX50, w ∈ wsX5_at := fun w h => List.mem_cons_of_mem _ (List.mem_append_right _ h)
  have hc25 : (Cond.constantLong RX5 25 (255)).before args s = true := hts _ (List.mem_of_getElem? (i := 2) rfl)
  have hl := lv_entry ([.ref q0, .int (iI pz1), .int (iI pz2)]) (n := 4) (Nat.le_of_ble_eq_true rfl)
  rw [show entryFrame m args 4 = entryFrame m ([.ref q0, .int (iI pz1), .int (iI pz2)] : List Value).toArray 4 from by rw [hav], lg_entry_eq]
  generalize (lg_sl ([.ref q0, .int (iI pz1), .int (iI pz2)]) ++ List.replicate (4 - (lg_sl ([.ref q0, .int (iI pz1), .int (iI pz2)])).length) Slot.unset).toArray = ls at hl ⊢
  have hl : lv_has ls 4 [(0, .ref q0), (1, .int (iI pz1)), (2, .int (iI pz2))] := hl
  unfold s_X5_at at hs
  refine lv_iload_n hx hb dX5_at_0 rfl (lv_at hl 1 rfl) ?_
  refine lv_iload_n hx hb dX5_at_1 rfl (lv_at hl 2 rfl) ?_
  obtain ⟨vz1, hcz, hs⟩ := bd1_some hs
  refine k_rS (As := [.int (iI pz1), .int (iI pz2)]) (rest := []) (st1 := [.int (iI vz1)]) ⟨hx, hb, hml, hown, hts⟩ hK (va_P_nil (D := D) (cl := vwCl)) (c_X5_isCell l D cI cZ cJ hcz) (va_cwS 2 hts gX5_at_X5_isCell rfl rfl rfl (by decide +kernel) ⟨Nat.le_of_ble_eq_true rfl, Nat.le_of_ble_eq_true rfl⟩) rfl hl.1 rfl (lv_room (Nat.le_of_ble_eq_true rfl)) dX5_at_2 ⟨Nat.zero_le _, Nat.zero_le _⟩ rfl ?_
  refine k_if_ne (tgt := 10) hx hb hs dX5_at_5 (by decide) (fun hs => ?_) (fun hs => ?_)
  · refine k_iconst (n := (-1)) hx hb dX5_at_8 ?_
    cases hs
    exact k_iret_r hx hb hr hlk rfl dX5_at_9 rfl
  · refine lv_iload_n hx hb dX5_at_10 rfl (lv_at hl 1 rfl) ?_
    refine k_bipush (n := 16) hx hb (by decide) dX5_at_11 ?_
    refine k_imul hx hb dX5_at_13 ?_
    refine lv_iload_n hx hb dX5_at_14 rfl (lv_at hl 2 rfl) ?_
    refine k_iadd hx hb dX5_at_15 ?_
    refine k_iconst (n := 1) hx hb dX5_at_16 ?_
    refine k_isub hx hb dX5_at_17 ?_
    refine lv_istore_n (lv' := [(3, .int (iI (((pz1 * 16) + pz2) - 1))), (0, .ref q0), (1, .int (iI pz1)), (2, .int (iI pz2))]) hx hb dX5_at_18 rfl hl (by decide) rfl (fun ls hl => ?_)
    refine lv_aload_n hx hb dX5_at_19 rfl (lv_at hl 1 rfl) ?_
    refine va_get (ci := 5) (v := .ref q1) (C := RX5) (T := TX5) (N := 1) hx hb hts hiX5 hown hK hP 0 rfl rfl 0 (by decide) hf9 (fun _ h9 => h9) rfl dX5_at_20 ?_
    refine lv_iload_n hx hb dX5_at_23 rfl (lv_at hl 0 rfl) ?_
    refine k_iconst (n := 3) hx hb dX5_at_24 ?_
    refine k_ishr hx hb dX5_at_25 ?_
    refine k_lald hx hb hK hP 1 2 rfl rfl (Nat.le_of_ble_eq_true rfl) hs dX5_at_26 (fun vz2 hs => ?_)
    refine lv_iload_n hx hb dX5_at_27 rfl (lv_at hl 0 rfl) ?_
    refine k_bipush (n := 7) hx hb (by decide) dX5_at_28 ?_
    refine k_iand hx hb dX5_at_30 ?_
    refine k_iconst (n := 3) hx hb dX5_at_31 ?_
    refine k_ishl hx hb dX5_at_32 ?_
    refine k_lushr hx hb dX5_at_33 ?_
    refine k_ldc2 (n := 255) hx hb (by decide) hown hc25 dX5_at_34 ?_
    refine k_land hx hb dX5_at_37 ?_
    refine k_l2i hx hb dX5_at_38 ?_
    refine k_iconst (n := 1) hx hb dX5_at_39 ?_
    refine k_isub hx hb dX5_at_40 ?_
    cases hs
    exact k_iret_r hx hb hr hlk rfl dX5_at_41 rfl
/-! X5_put -/
set_option maxHeartbeats 4000000 in
set_option maxRecDepth 100000 in
theorem c_X5_put (l : Launch) (D : va_G) (cI cZ cJ : ClassId) {q0 q1 : Nat} {a_words : (Int → Int)} {pz1 : Int} {pz2 : Int} {pz3 : Int} {y_a_words : (Int → Int)} {sz : Nat} (hs : s_X5_put a_words pz1 pz2 pz3 = some y_a_words) : Met l yX5_put wsX5_put rm_X5_put (PW D vwCl [(cI, .int), (cZ, .boolean), (cJ, .long)] [.ref q0, .int (iI pz1), .int (iI pz2), .int (iI pz3)] [(q0, .inr (5, [.ref q1])), (q1, .inl (cJ, 1200, .inr (.inl (mL a_words))))] sz) (QW D vwCl none [(q0, .inr (5, [.ref q1])), (q1, .inl (cJ, 1200, .inr (.inl (mL y_a_words))))] (va_A [(q0, .inr (5, [.ref q1])), (q1, .inl (cJ, 1200, .inr (.inl (mL a_words))))] sz)) 0 0 (va_A [(q0, .inr (5, [.ref q1])), (q1, .inl (cJ, 1200, .inr (.inl (mL a_words))))] sz) := by
  refine Met.ofW (cc := cX5_put) (maxL := 8) (ret := none) (by decide) rfl ?_
  intro p e s m args below meth c s₁ B hml hv
  obtain ⟨hav, hsz, hP, hK, hD0⟩ := hv
  have hx := B.exec
  have hb := B.bytes
  have hr := B.returns
  have hts := atoms_spec (ws := wsX5_put) B.pre
  have hown : s.vm.findClass RX5 = some m.cls := findClass_of_methodNamed B.named
  have hlk := B.notSynchronized
  have hf9 : (Cond.fieldLink RX5 9 "KeywordMatcher$MatchTable" "words" "[J").before args s = true := hts _ (List.mem_of_getElem? (i := 1) rfl)
  have hiX5 : ∀ w ∈ wsX50, w ∈ wsX5_put := fun w h => List.mem_cons_of_mem _ (List.mem_append_right _ h)
  have hc25 : (Cond.constantLong RX5 25 (255)).before args s = true := hts _ (List.mem_of_getElem? (i := 2) rfl)
  have hc27 : (Cond.constantLong RX5 27 (-1)).before args s = true := hts _ (List.mem_of_getElem? (i := 3) rfl)
  subst hsz
  have hD := hD0.self (sz := s.heap.size)
  generalize hAe : va_A [(q0, .inr (5, [.ref q1])), (q1, .inl (cJ, 1200, .inr (.inl (mL a_words))))] s.heap.size = Az at hD ⊢
  have hA : ∀ q : Nat, s.heap.size ≤ q → Az q := fun q h => by rw [← hAe]; exact Or.inr h
  clear hAe
  have hSz : va_S Az s.heap s.heap [] := va_S.rf
  obtain ⟨wz, hw1⟩ : ∃ z : va_W, z = [(q0, .inr (5, [.ref q1])), (q1, .inl (cJ, 1200, .inr (.inl (mL y_a_words))))] := ⟨_, rfl⟩
  rw [← hw1]
  have hl := lv_entry ([.ref q0, .int (iI pz1), .int (iI pz2), .int (iI pz3)]) (n := 8) (Nat.le_of_ble_eq_true rfl)
  rw [show entryFrame m args 8 = entryFrame m ([.ref q0, .int (iI pz1), .int (iI pz2), .int (iI pz3)] : List Value).toArray 8 from by rw [hav], lg_entry_eq]
  generalize (lg_sl ([.ref q0, .int (iI pz1), .int (iI pz2), .int (iI pz3)]) ++ List.replicate (8 - (lg_sl ([.ref q0, .int (iI pz1), .int (iI pz2), .int (iI pz3)])).length) Slot.unset).toArray = ls at hl ⊢
  have hl : lv_has ls 8 [(0, .ref q0), (1, .int (iI pz1)), (2, .int (iI pz2)), (3, .int (iI pz3))] := hl
  unfold s_X5_put at hs
  refine (?_ : ∀ (Hz : Heap) (lz : List Loc), va_P D vwCl [(q0, .inr (5, [.ref q1])), (q1, .inl (cJ, 1200, .inr (.inl (mL a_words))))] Hz → va_D Az [(q0, .inr (5, [.ref q1])), (q1, .inl (cJ, 1200, .inr (.inl (mL a_words))))] → va_S Az s.heap Hz lz → W p l e (headSpec wsX5_put rm_X5_put).room s m args below meth c Hz lz 0 0 (MQ below (QW D vwCl none wz Az) args s 0 0 Az) (F0 m 0 ls [])) s.heap [] hP hD hSz
  intro Hz lz hP hD hSz
  refine lv_iload_n hx hb dX5_put_0 rfl (lv_at hl 1 rfl) ?_
  refine lv_iload_n hx hb dX5_put_1 rfl (lv_at hl 2 rfl) ?_
  obtain ⟨vz1, hcz, hs⟩ := bd1_some hs
  refine k_rS (As := [.int (iI pz1), .int (iI pz2)]) (rest := []) (st1 := [.int (iI vz1)]) ⟨hx, hb, hml, hown, hts⟩ hK (va_P_nil (D := D) (cl := vwCl)) (c_X5_isCell l D cI cZ cJ hcz) (va_cwS 2 hts gX5_put_X5_isCell rfl rfl rfl (by decide +kernel) ⟨Nat.le_of_ble_eq_true rfl, Nat.le_of_ble_eq_true rfl⟩) rfl hl.1 rfl (lv_room (Nat.le_of_ble_eq_true rfl)) dX5_put_2 ⟨Nat.zero_le _, Nat.zero_le _⟩ rfl ?_
  refine k_if_ne (tgt := 9) hx hb hs dX5_put_5 (by decide) (fun hs => ?_) (fun hs => ?_)
  · cases hs
    exact k_vret_w hx hb hr hlk (by rw [hw1]; exact hP) hSz dX5_put_8 rfl
  · refine lv_iload_n hx hb dX5_put_9 rfl (lv_at hl 1 rfl) ?_
    refine k_bipush (n := 16) hx hb (by decide) dX5_put_10 ?_
    refine k_imul hx hb dX5_put_12 ?_
    refine lv_iload_n hx hb dX5_put_13 rfl (lv_at hl 2 rfl) ?_
    refine k_iadd hx hb dX5_put_14 ?_
    refine k_iconst (n := 1) hx hb dX5_put_15 ?_
    refine k_isub hx hb dX5_put_16 ?_
    refine lv_istore (lv' := [(4, .int (iI (((pz1 * 16) + pz2) - 1))), (0, .ref q0), (1, .int (iI pz1)), (2, .int (iI pz2)), (3, .int (iI pz3))]) hx hb dX5_put_17 hl (by decide) rfl (fun ls hl => ?_)
    refine lv_iload hx hb dX5_put_19 (lv_at hl 0 rfl) ?_
    refine k_bipush (n := 7) hx hb (by decide) dX5_put_21 ?_
    refine k_iand hx hb dX5_put_23 ?_
    refine k_iconst (n := 3) hx hb dX5_put_24 ?_
    refine k_ishl hx hb dX5_put_25 ?_
    refine lv_istore (lv' := [(5, .int (iI (iShl (iAnd (((pz1 * 16) + pz2) - 1) 7) 3))), (4, .int (iI (((pz1 * 16) + pz2) - 1))), (0, .ref q0), (1, .int (iI pz1)), (2, .int (iI pz2)), (3, .int (iI pz3))]) hx hb dX5_put_26 hl (by decide) rfl (fun ls hl => ?_)
    refine lv_aload_n hx hb dX5_put_28 rfl (lv_at hl 2 rfl) ?_
    refine va_get (ci := 5) (v := .ref q1) (C := RX5) (T := TX5) (N := 1) hx hb hts hiX5 hown hK hP 0 rfl rfl 0 (by decide) hf9 (fun _ h9 => h9) rfl dX5_put_29 ?_
    refine lv_iload hx hb dX5_put_32 (lv_at hl 1 rfl) ?_
    refine k_iconst (n := 3) hx hb dX5_put_34 ?_
    refine k_ishr hx hb dX5_put_35 ?_
    refine k_lald hx hb hK hP 1 2 rfl rfl (Nat.le_of_ble_eq_true rfl) hs dX5_put_36 (fun vz2 hs => ?_)
    refine k_ldc2 (n := 255) hx hb (by decide) hown hc25 dX5_put_37 ?_
    refine lv_iload hx hb dX5_put_40 (lv_at hl 0 rfl) ?_
    refine k_lshl hx hb dX5_put_42 ?_
    refine k_ldc2 (n := (-1)) hx hb (by decide) hown hc27 dX5_put_43 ?_
    refine k_lxor hx hb dX5_put_46 ?_
    refine k_land hx hb dX5_put_47 ?_
    refine lv_lstore (lv' := [(6, .long (iL (lAnd vz2 (lXor (lShl 255 (iShl (iAnd (((pz1 * 16) + pz2) - 1) 7) 3)) (-1))))), (5, .int (iI (iShl (iAnd (((pz1 * 16) + pz2) - 1) 7) 3))), (4, .int (iI (((pz1 * 16) + pz2) - 1))), (0, .ref q0), (1, .int (iI pz1)), (2, .int (iI pz2)), (3, .int (iI pz3))]) hx hb dX5_put_48 hl (by decide) rfl (fun ls hl => ?_)
    refine lv_aload_n hx hb dX5_put_50 rfl (lv_at hl 3 rfl) ?_
    refine va_get (ci := 5) (v := .ref q1) (C := RX5) (T := TX5) (N := 1) hx hb hts hiX5 hown hK hP 0 rfl rfl 0 (by decide) hf9 (fun _ h9 => h9) rfl dX5_put_51 ?_
    refine lv_iload hx hb dX5_put_54 (lv_at hl 2 rfl) ?_
    refine k_iconst (n := 3) hx hb dX5_put_56 ?_
    refine k_ishr hx hb dX5_put_57 ?_
    refine lv_lload hx hb dX5_put_58 (lv_at hl 0 rfl) ?_
    refine lv_iload_n hx hb dX5_put_60 rfl (lv_at hl 6 rfl) ?_
    refine k_iconst (n := 1) hx hb dX5_put_61 ?_
    refine k_iadd hx hb dX5_put_62 ?_
    refine k_i2l hx hb hs dX5_put_63 (fun hs => ?_)
    refine k_ldc2 (n := 255) hx hb (by decide) hown hc25 dX5_put_64 ?_
    refine k_land hx hb dX5_put_67 ?_
    refine lv_iload hx hb dX5_put_68 (lv_at hl 1 rfl) ?_
    refine k_lshl hx hb dX5_put_70 ?_
    refine k_lor hx hb dX5_put_71 ?_
    refine k_last hx hb hK hP hD hSz 1 2 rfl rfl (Nat.le_of_ble_eq_true rfl) hs dX5_put_72 (fun Hz lz hP hD hSz hs => ?_)
    have hP : va_P D vwCl [(q0, .inr (5, [.ref q1])), (q1, .inl (cJ, 1200, .inr (.inl (mL (upA a_words (iShr (((pz1 * 16) + pz2) - 1) 3) (lOr (lAnd vz2 (lXor (lShl 255 (iShl (iAnd (((pz1 * 16) + pz2) - 1) 7) 3)) (-1))) (lShl (lAnd (pz3 + 1) 255) (iShl (iAnd (((pz1 * 16) + pz2) - 1) 7) 3))))))))] Hz := hP
    have hD : va_D Az [(q0, .inr (5, [.ref q1])), (q1, .inl (cJ, 1200, .inr (.inl (mL (upA a_words (iShr (((pz1 * 16) + pz2) - 1) 3) (lOr (lAnd vz2 (lXor (lShl 255 (iShl (iAnd (((pz1 * 16) + pz2) - 1) 7) 3)) (-1))) (lShl (lAnd (pz3 + 1) 255) (iShl (iAnd (((pz1 * 16) + pz2) - 1) 7) 3))))))))] := hD
    cases hs
    exact k_vret_w hx hb hr hlk (by rw [hw1]; exact hP) hSz dX5_put_73 rfl
/-! X5_longestFrom -/
set_option maxHeartbeats 4000000 in
set_option maxRecDepth 100000 in
theorem c_X5_longestFrom (l : Launch) (D : va_G) (cI cZ cJ : ClassId) {q0 q1 : Nat} {a_words : (Int → Int)} {pz1 : Int} {r : Int} (hs : s_X5_longestFrom a_words pz1 = some r) : Met l yX5_longestFrom wsX5_longestFrom rm_X5_longestFrom (PR D vwCl [(cI, .int), (cZ, .boolean), (cJ, .long)] [.ref q0, .int (iI pz1)] [(q0, .inr (5, [.ref q1])), (q1, .inl (cJ, 1200, .inr (.inl (mL a_words))))]) (QR (some (.int (iI r)))) 0 0 (fun _ => False) := by
  refine Met.ofW (cc := cX5_longestFrom) (maxL := 3) (ret := (some .int)) (by decide) rfl ?_
  intro p e s m args below meth c s₁ B hml hv
  obtain ⟨hav, hP, hK⟩ := hv
  have hx := B.exec
  have hb := B.bytes
  have hr := B.returns
  have hts := atoms_spec (ws := wsX5_longestFrom) B.pre
  have hown : s.vm.findClass RX5 = some m.cls := findClass_of_methodNamed B.named
  have hlk := B.notSynchronized
  have hl := lv_entry ([.ref q0, .int (iI pz1)]) (n := 3) (Nat.le_of_ble_eq_true rfl)
  rw [show entryFrame m args 3 = entryFrame m ([.ref q0, .int (iI pz1)] : List Value).toArray 3 from by rw [hav], lg_entry_eq]
  generalize (lg_sl ([.ref q0, .int (iI pz1)]) ++ List.replicate (3 - (lg_sl ([.ref q0, .int (iI pz1)])).length) Slot.unset).toArray = ls at hl ⊢
  have hl : lv_has ls 3 [(0, .ref q0), (1, .int (iI pz1))] := hl
  unfold s_X5_longestFrom at hs
  have Lz3 : ∀ (fu : Nat) (l1 : Int) (l2 : Int), s_X5_longestFrom_3 fu a_words l1 l2 = some r → ∀ ls : Array Slot, lv_has ls 3 [(0, .ref q0), (1, .int (iI l1)), (2, .int (iI l2))] → W p l e (headSpec wsX5_longestFrom rm_X5_longestFrom).room s m args below meth c s.heap [] 0 0 (MQ below (QR (some (.int (iI r)))) args s 0 0 (fun _ => False)) (F0 m 3 ls []) := by
    intro fu
    induction fu with
    | zero => intro l1 l2 hs; cases hs
    | succ fu ih =>
      intro l1 l2 hs ls hl
      rw [s_X5_longestFrom_3_s] at hs
      refine lv_iload_n hx hb dX5_longestFrom_3 rfl (lv_at hl 2 rfl) ?_
      refine k_if_le (tgt := 25) hx hb hs dX5_longestFrom_4 (by decide) (fun hs => ?_) (fun hs => ?_)
      · refine lv_aload_n hx hb dX5_longestFrom_7 rfl (lv_at hl 0 rfl) ?_
        refine lv_iload_n hx hb dX5_longestFrom_8 rfl (lv_at hl 1 rfl) ?_
        refine lv_iload_n hx hb dX5_longestFrom_9 rfl (lv_at hl 2 rfl) ?_
        obtain ⟨vz1, hcz, hs⟩ := bd1_some hs
        have hPc : va_P D vwCl [(q0, .inr (5, [.ref q1])), (q1, .inl (cJ, 1200, .inr (.inl (mL a_words))))] s.heap := hP.sub [0, 1] rfl
        refine k_rV (As := [.int (iI l1), .int (iI l2)]) (rest := []) (st1 := [.int (iI vz1)]) ⟨hx, hb, hml, hown, hts⟩ hK hPc (c_X5_at l D cI cZ cJ hcz) (cwV 2 hts gX5_longestFrom_X5_at rfl rfl rfl (by decide +kernel) ⟨Nat.le_of_ble_eq_true rfl, Nat.le_of_ble_eq_true rfl⟩) 0 rfl rfl rfl rfl hl.1 rfl (lv_room (Nat.le_of_ble_eq_true rfl)) dX5_longestFrom_10 ⟨Nat.zero_le _, Nat.zero_le _⟩ rfl ?_
        refine k_iconst (n := (-1)) hx hb dX5_longestFrom_13 ?_
        refine k_icmp_eq (tgt := 19) hx hb hs dX5_longestFrom_14 (by decide) (fun hs => ?_) (fun hs => ?_)
        · refine k_iinc (x := l2) (k := 2) (lv' := [(2, .int (iI (l2 + (-1)))), (0, .ref q0), (1, .int (iI l1))]) hx hb dX5_longestFrom_19 hl rfl (by decide) rfl (fun ls hl => ?_)
          refine lv_goto (tgt := 3) hx hb dX5_longestFrom_22 (by decide) ?_
          exact ih l1 (l2 + (-1))  hs ls (lv_sub hl [1, 2, 0] rfl)
        · refine lv_iload_n hx hb dX5_longestFrom_17 rfl (lv_at hl 2 rfl) ?_
          cases hs
          exact k_iret_r hx hb hr hlk rfl dX5_longestFrom_18 rfl
      · refine k_iconst (n := 0) hx hb dX5_longestFrom_25 ?_
        cases hs
        exact k_iret_r hx hb hr hlk rfl dX5_longestFrom_26 rfl
  refine k_bipush (n := 16) hx hb (by decide) dX5_longestFrom_0 ?_
  refine lv_istore_n (lv' := [(2, .int (iI 16)), (0, .ref q0), (1, .int (iI pz1))]) hx hb dX5_longestFrom_2 rfl hl (by decide) rfl (fun ls hl => ?_)
  exact Lz3 FU pz1 16 hs ls (lv_sub hl [1, 2, 0] rfl)
/-! X5_countFrom -/
set_option maxHeartbeats 4000000 in
set_option maxRecDepth 100000 in
theorem c_X5_countFrom (l : Launch) (D : va_G) (cI cZ cJ : ClassId) {q0 q1 : Nat} {a_words : (Int → Int)} {pz1 : Int} {r : Int} (hs : s_X5_countFrom a_words pz1 = some r) : Met l yX5_countFrom wsX5_countFrom rm_X5_countFrom (PR D vwCl [(cI, .int), (cZ, .boolean), (cJ, .long)] [.ref q0, .int (iI pz1)] [(q0, .inr (5, [.ref q1])), (q1, .inl (cJ, 1200, .inr (.inl (mL a_words))))]) (QR (some (.int (iI r)))) 0 0 (fun _ => False) := by
  refine Met.ofW (cc := cX5_countFrom) (maxL := 4) (ret := (some .int)) (by decide) rfl ?_
  intro p e s m args below meth c s₁ B hml hv
  obtain ⟨hav, hP, hK⟩ := hv
  have hx := B.exec
  have hb := B.bytes
  have hr := B.returns
  have hts := atoms_spec (ws := wsX5_countFrom) B.pre
  have hown : s.vm.findClass RX5 = some m.cls := findClass_of_methodNamed B.named
  have hlk := B.notSynchronized
  have hl := lv_entry ([.ref q0, .int (iI pz1)]) (n := 4) (Nat.le_of_ble_eq_true rfl)
  rw [show entryFrame m args 4 = entryFrame m ([.ref q0, .int (iI pz1)] : List Value).toArray 4 from by rw [hav], lg_entry_eq]
  generalize (lg_sl ([.ref q0, .int (iI pz1)]) ++ List.replicate (4 - (lg_sl ([.ref q0, .int (iI pz1)])).length) Slot.unset).toArray = ls at hl ⊢
  have hl : lv_has ls 4 [(0, .ref q0), (1, .int (iI pz1))] := hl
  unfold s_X5_countFrom at hs
  have Lz4 : ∀ (fu : Nat) (l1 : Int) (l2 : Int) (l3 : Int) (y0 : Int), s_X5_countFrom_4 fu a_words l1 l2 l3 = some y0 → ∀ ls : Array Slot, lv_has ls 4 [(0, .ref q0), (1, .int (iI l1)), (2, .int (iI l2)), (3, .int (iI l3))] → (∀ ls : Array Slot, lv_has ls 4 [(2, .int (iI y0))] → W p l e (headSpec wsX5_countFrom rm_X5_countFrom).room s m args below meth c s.heap [] 0 0 (MQ below (QR (some (.int (iI r)))) args s 0 0 (fun _ => False)) (F0 m 29 ls [])) → W p l e (headSpec wsX5_countFrom rm_X5_countFrom).room s m args below meth c s.heap [] 0 0 (MQ below (QR (some (.int (iI r)))) args s 0 0 (fun _ => False)) (F0 m 4 ls []) := by
    intro fu
    induction fu with
    | zero => intro l1 l2 l3 y0 hs; cases hs
    | succ fu ih =>
      intro l1 l2 l3 y0 hs ls hl kx
      rw [s_X5_countFrom_4_s] at hs
      refine lv_iload_n hx hb dX5_countFrom_4 rfl (lv_at hl 3 rfl) ?_
      refine k_bipush (n := 16) hx hb (by decide) dX5_countFrom_5 ?_
      refine k_icmp_gt (tgt := 29) hx hb hs dX5_countFrom_7 (by decide) (fun hs => ?_) (fun hs => ?_)
      · cases hs
        exact kx ls (lv_sub hl [2] rfl)
      · refine lv_aload_n hx hb dX5_countFrom_10 rfl (lv_at hl 0 rfl) ?_
        refine lv_iload_n hx hb dX5_countFrom_11 rfl (lv_at hl 1 rfl) ?_
        refine lv_iload_n hx hb dX5_countFrom_12 rfl (lv_at hl 3 rfl) ?_
        obtain ⟨vz1, hcz, hs⟩ := bd1_some hs
        have hPc : va_P D vwCl [(q0, .inr (5, [.ref q1])), (q1, .inl (cJ, 1200, .inr (.inl (mL a_words))))] s.heap := hP.sub [0, 1] rfl
        refine k_rV (As := [.int (iI l1), .int (iI l3)]) (rest := []) (st1 := [.int (iI vz1)]) ⟨hx, hb, hml, hown, hts⟩ hK hPc (c_X5_at l D cI cZ cJ hcz) (cwV 2 hts gX5_countFrom_X5_at rfl rfl rfl (by decide +kernel) ⟨Nat.le_of_ble_eq_true rfl, Nat.le_of_ble_eq_true rfl⟩) 0 rfl rfl rfl rfl hl.1 rfl (lv_room (Nat.le_of_ble_eq_true rfl)) dX5_countFrom_13 ⟨Nat.zero_le _, Nat.zero_le _⟩ rfl ?_
        refine k_iconst (n := (-1)) hx hb dX5_countFrom_16 ?_
        refine k_icmp_eq (tgt := 23) hx hb hs dX5_countFrom_17 (by decide) (fun hs => ?_) (fun hs => ?_)
        · refine k_iinc (x := l3) (k := 3) (lv' := [(3, .int (iI (l3 + 1))), (0, .ref q0), (1, .int (iI l1)), (2, .int (iI l2))]) hx hb dX5_countFrom_23 hl rfl (by decide) rfl (fun ls hl => ?_)
          refine lv_goto (tgt := 4) hx hb dX5_countFrom_26 (by decide) ?_
          exact ih l1 l2 (l3 + 1) y0 hs ls (lv_sub hl [1, 2, 3, 0] rfl) kx
        · refine k_iinc (x := l2) (k := 2) (lv' := [(2, .int (iI (l2 + 1))), (0, .ref q0), (1, .int (iI l1)), (3, .int (iI l3))]) hx hb dX5_countFrom_20 hl rfl (by decide) rfl (fun ls hl => ?_)
          refine k_iinc (x := l3) (k := 3) (lv' := [(3, .int (iI (l3 + 1))), (2, .int (iI (l2 + 1))), (0, .ref q0), (1, .int (iI l1))]) hx hb dX5_countFrom_23 hl rfl (by decide) rfl (fun ls hl => ?_)
          refine lv_goto (tgt := 4) hx hb dX5_countFrom_26 (by decide) ?_
          exact ih l1 (l2 + 1) (l3 + 1) y0 hs ls (lv_sub hl [2, 3, 1, 0] rfl) kx
  refine k_iconst (n := 0) hx hb dX5_countFrom_0 ?_
  refine lv_istore_n (lv' := [(2, .int (iI 0)), (0, .ref q0), (1, .int (iI pz1))]) hx hb dX5_countFrom_1 rfl hl (by decide) rfl (fun ls hl => ?_)
  refine k_iconst (n := 1) hx hb dX5_countFrom_2 ?_
  refine lv_istore_n (lv' := [(3, .int (iI 1)), (2, .int (iI 0)), (0, .ref q0), (1, .int (iI pz1))]) hx hb dX5_countFrom_3 rfl hl (by decide) rfl (fun ls hl => ?_)
  obtain ⟨ez2, hq, hs⟩ := bd1_some hs
  refine Lz4 FU pz1 0 1 ez2 hq ls (lv_sub hl [2, 3, 1, 0] rfl) ?_
  intro ls hl
  refine lv_iload_n hx hb dX5_countFrom_29 rfl (lv_at hl 0 rfl) ?_
  cases hs
  exact k_iret_r hx hb hr hlk rfl dX5_countFrom_30 rfl
/-! X5_countTo -/
set_option maxHeartbeats 4000000 in
set_option maxRecDepth 100000 in
theorem c_X5_countTo (l : Launch) (D : va_G) (cI cZ cJ : ClassId) {q0 q1 : Nat} {a_words : (Int → Int)} {pz1 : Int} {r : Int} (hs : s_X5_countTo a_words pz1 = some r) : Met l yX5_countTo wsX5_countTo rm_X5_countTo (PR D vwCl [(cI, .int), (cZ, .boolean), (cJ, .long)] [.ref q0, .int (iI pz1)] [(q0, .inr (5, [.ref q1])), (q1, .inl (cJ, 1200, .inr (.inl (mL a_words))))]) (QR (some (.int (iI r)))) 0 0 (fun _ => False) := by
  refine Met.ofW (cc := cX5_countTo) (maxL := 4) (ret := (some .int)) (by decide) rfl ?_
  intro p e s m args below meth c s₁ B hml hv
  obtain ⟨hav, hP, hK⟩ := hv
  have hx := B.exec
  have hb := B.bytes
  have hr := B.returns
  have hts := atoms_spec (ws := wsX5_countTo) B.pre
  have hown : s.vm.findClass RX5 = some m.cls := findClass_of_methodNamed B.named
  have hlk := B.notSynchronized
  have hl := lv_entry ([.ref q0, .int (iI pz1)]) (n := 4) (Nat.le_of_ble_eq_true rfl)
  rw [show entryFrame m args 4 = entryFrame m ([.ref q0, .int (iI pz1)] : List Value).toArray 4 from by rw [hav], lg_entry_eq]
  generalize (lg_sl ([.ref q0, .int (iI pz1)]) ++ List.replicate (4 - (lg_sl ([.ref q0, .int (iI pz1)])).length) Slot.unset).toArray = ls at hl ⊢
  have hl : lv_has ls 4 [(0, .ref q0), (1, .int (iI pz1))] := hl
  unfold s_X5_countTo at hs
  have Lz4 : ∀ (fu : Nat) (l1 : Int) (l2 : Int) (l3 : Int) (y0 : Int), s_X5_countTo_4 fu a_words l1 l2 l3 = some y0 → ∀ ls : Array Slot, lv_has ls 4 [(0, .ref q0), (1, .int (iI l1)), (2, .int (iI l2)), (3, .int (iI l3))] → (∀ ls : Array Slot, lv_has ls 4 [(2, .int (iI y0))] → W p l e (headSpec wsX5_countTo rm_X5_countTo).room s m args below meth c s.heap [] 0 0 (MQ below (QR (some (.int (iI r)))) args s 0 0 (fun _ => False)) (F0 m 33 ls [])) → W p l e (headSpec wsX5_countTo rm_X5_countTo).room s m args below meth c s.heap [] 0 0 (MQ below (QR (some (.int (iI r)))) args s 0 0 (fun _ => False)) (F0 m 4 ls []) := by
    intro fu
    induction fu with
    | zero => intro l1 l2 l3 y0 hs; cases hs
    | succ fu ih =>
      intro l1 l2 l3 y0 hs ls hl kx
      rw [s_X5_countTo_4_s] at hs
      refine lv_iload_n hx hb dX5_countTo_4 rfl (lv_at hl 3 rfl) ?_
      refine k_bipush (n := 16) hx hb (by decide) dX5_countTo_5 ?_
      refine k_icmp_gt (tgt := 33) hx hb hs dX5_countTo_7 (by decide) (fun hs => ?_) (fun hs => ?_)
      · cases hs
        exact kx ls (lv_sub hl [2] rfl)
      · refine lv_aload_n hx hb dX5_countTo_10 rfl (lv_at hl 0 rfl) ?_
        refine lv_iload_n hx hb dX5_countTo_11 rfl (lv_at hl 1 rfl) ?_
        refine lv_iload_n hx hb dX5_countTo_12 rfl (lv_at hl 3 rfl) ?_
        refine k_isub hx hb dX5_countTo_13 ?_
        refine k_iconst (n := 1) hx hb dX5_countTo_14 ?_
        refine k_iadd hx hb dX5_countTo_15 ?_
        refine lv_iload_n hx hb dX5_countTo_16 rfl (lv_at hl 3 rfl) ?_
        obtain ⟨vz1, hcz, hs⟩ := bd1_some hs
        have hPc : va_P D vwCl [(q0, .inr (5, [.ref q1])), (q1, .inl (cJ, 1200, .inr (.inl (mL a_words))))] s.heap := hP.sub [0, 1] rfl
        refine k_rV (As := [.int (iI ((l1 - l3) + 1)), .int (iI l3)]) (rest := []) (st1 := [.int (iI vz1)]) ⟨hx, hb, hml, hown, hts⟩ hK hPc (c_X5_at l D cI cZ cJ hcz) (cwV 2 hts gX5_countTo_X5_at rfl rfl rfl (by decide +kernel) ⟨Nat.le_of_ble_eq_true rfl, Nat.le_of_ble_eq_true rfl⟩) 0 rfl rfl rfl rfl hl.1 rfl (lv_room (Nat.le_of_ble_eq_true rfl)) dX5_countTo_17 ⟨Nat.zero_le _, Nat.zero_le _⟩ rfl ?_
        refine k_iconst (n := (-1)) hx hb dX5_countTo_20 ?_
        refine k_icmp_eq (tgt := 27) hx hb hs dX5_countTo_21 (by decide) (fun hs => ?_) (fun hs => ?_)
        · refine k_iinc (x := l3) (k := 3) (lv' := [(3, .int (iI (l3 + 1))), (0, .ref q0), (1, .int (iI l1)), (2, .int (iI l2))]) hx hb dX5_countTo_27 hl rfl (by decide) rfl (fun ls hl => ?_)
          refine lv_goto (tgt := 4) hx hb dX5_countTo_30 (by decide) ?_
          exact ih l1 l2 (l3 + 1) y0 hs ls (lv_sub hl [1, 2, 3, 0] rfl) kx
        · refine k_iinc (x := l2) (k := 2) (lv' := [(2, .int (iI (l2 + 1))), (0, .ref q0), (1, .int (iI l1)), (3, .int (iI l3))]) hx hb dX5_countTo_24 hl rfl (by decide) rfl (fun ls hl => ?_)
          refine k_iinc (x := l3) (k := 3) (lv' := [(3, .int (iI (l3 + 1))), (2, .int (iI (l2 + 1))), (0, .ref q0), (1, .int (iI l1))]) hx hb dX5_countTo_27 hl rfl (by decide) rfl (fun ls hl => ?_)
          refine lv_goto (tgt := 4) hx hb dX5_countTo_30 (by decide) ?_
          exact ih l1 (l2 + 1) (l3 + 1) y0 hs ls (lv_sub hl [2, 3, 1, 0] rfl) kx
  refine k_iconst (n := 0) hx hb dX5_countTo_0 ?_
  refine lv_istore_n (lv' := [(2, .int (iI 0)), (0, .ref q0), (1, .int (iI pz1))]) hx hb dX5_countTo_1 rfl hl (by decide) rfl (fun ls hl => ?_)
  refine k_iconst (n := 1) hx hb dX5_countTo_2 ?_
  refine lv_istore_n (lv' := [(3, .int (iI 1)), (2, .int (iI 0)), (0, .ref q0), (1, .int (iI pz1))]) hx hb dX5_countTo_3 rfl hl (by decide) rfl (fun ls hl => ?_)
  obtain ⟨ez2, hq, hs⟩ := bd1_some hs
  refine Lz4 FU pz1 0 1 ez2 hq ls (lv_sub hl [2, 3, 1, 0] rfl) ?_
  intro ls hl
  refine lv_iload_n hx hb dX5_countTo_33 rfl (lv_at hl 0 rfl) ?_
  cases hs
  exact k_iret_r hx hb hr hlk rfl dX5_countTo_34 rfl
