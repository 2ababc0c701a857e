/-! J7_fill_d0a16 -/
set_option maxHeartbeats 4000000 in
set_option maxRecDepth 100000 in
theorem c_J7_fill_d0a16 (l : Launch) (D : va_G) (cI cZ cJ : ClassId) {q0 : Nat} {m0 : Nat} {a_arg0 : (Int → Int)} {pz1 : Int} {y_a_arg0 : (Int → Int)} {sz : Nat} (hm0 : m0 ≤ 2147483647) (hs : s_J7_fill_d0a16 m0 a_arg0 pz1 = some y_a_arg0) : Met l yJ7_fill_d0a16 wsJ7_fill_d0a16 rm_J7_fill_d0a16 (PW D vwCl [(cI, .int), (cZ, .boolean), (cJ, .long)] [.ref q0, .long (iL pz1)] [(q0, .inl (cJ, m0, .inr (.inl (mL a_arg0))))] sz) (QW D vwCl none [(q0, .inl (cJ, m0, .inr (.inl (mL y_a_arg0))))] (va_A [(q0, .inl (cJ, m0, .inr (.inl (mL a_arg0))))] sz)) 0 0 (va_A [(q0, .inl (cJ, m0, .inr (.inl (mL a_arg0))))] sz) := by
  refine Met.ofW (cc := cJ7_fill_d0a16) (maxL := 5) (ret := none) (by decide) rfl ?_
  intro p e s m args below meth c s₁ B hml hv
  obtain ⟨hav, hsz, hP, hK, hD0⟩ := hv
  have hx := B.exec
  have hb := B.bytes
  have hr := B.returns
  have hts := atoms_spec (ws := wsJ7_fill_d0a16) B.pre
  have hown : s.vm.findClass RJ7 = some m.cls := findClass_of_methodNamed B.named
  have hlk := B.notSynchronized
  subst hsz
  have hD := hD0.self (sz := s.heap.size)
  generalize hAe : va_A [(q0, .inl (cJ, m0, .inr (.inl (mL a_arg0))))] s.heap.size = Az at hD ⊢
  have hA : ∀ q : Nat, s.heap.size ≤ q → Az q := fun q h => by rw [← hAe]; exact Or.inr h
  clear hAe
  have hSz : va_S Az s.heap s.heap [] := va_S.rf
  obtain ⟨wz, hw1⟩ : ∃ z : va_W, z = [(q0, .inl (cJ, m0, .inr (.inl (mL y_a_arg0))))] := ⟨_, rfl⟩
  rw [← hw1]
  have hl := lv_entry ([.ref q0, .long (iL pz1)]) (n := 5) (Nat.le_of_ble_eq_true rfl)
  rw [show entryFrame m args 5 = entryFrame m ([.ref q0, .long (iL pz1)] : List Value).toArray 5 from by rw [hav], lg_entry_eq]
  generalize (lg_sl ([.ref q0, .long (iL pz1)]) ++ List.replicate (5 - (lg_sl ([.ref q0, .long (iL pz1)])).length) Slot.unset).toArray = ls at hl ⊢
  have hl : lv_has ls 5 [(0, .ref q0), (1, .long (iL pz1))] := hl
  unfold s_J7_fill_d0a16 at hs
  have Lz6 : ∀ (fu : Nat) (a_arg0 : (Int → Int)) (l1 : Int) (l3 : Int) (l4 : Int) (y0 : (Int → Int)), s_J7_fill_d0a16_6 m0 fu a_arg0 l1 l3 l4 = some y0 → ∀ (Hz : Heap) (lz : List Loc), va_P D vwCl [(q0, .inl (cJ, m0, .inr (.inl (mL a_arg0))))] Hz → va_D Az [(q0, .inl (cJ, m0, .inr (.inl (mL a_arg0))))] → va_S Az s.heap Hz lz → ∀ ls : Array Slot, lv_has ls 5 [(0, .ref q0), (1, .long (iL l1)), (3, .int (iI l3)), (4, .int (iI l4))] → (∀ (Hz : Heap) (lz : List Loc), va_P D vwCl [(q0, .inl (cJ, m0, .inr (.inl (mL y0))))] Hz → va_D Az [(q0, .inl (cJ, m0, .inr (.inl (mL y0))))] → va_S Az s.heap Hz lz → ∀ ls : Array Slot, lv_has ls 5 [] → W p l e (headSpec wsJ7_fill_d0a16 rm_J7_fill_d0a16).room s m args below meth c Hz lz 0 0 (MQ below (QW D vwCl none wz Az) args s 0 0 Az) (F0 m 22 ls [])) → W p l e (headSpec wsJ7_fill_d0a16 rm_J7_fill_d0a16).room s m args below meth c Hz lz 0 0 (MQ below (QW D vwCl none wz Az) args s 0 0 Az) (F0 m 6 ls []) := by
    intro fu
    induction fu with
    | zero => intro a_arg0 l1 l3 l4 y0 hs; cases hs
    | succ fu ih =>
      intro a_arg0 l1 l3 l4 y0 hs Hz lz hP hD hSz ls hl kx
      rw [s_J7_fill_d0a16_6_s] at hs
      refine lv_iload_n hx hb dJ7_fill_d0a16_6 rfl (lv_at hl 2 rfl) ?_
      refine lv_iload hx hb dJ7_fill_d0a16_7 (lv_at hl 3 rfl) ?_
      refine k_icmp_ge (tgt := 22) hx hb hs dJ7_fill_d0a16_9 (by decide) (fun hs => ?_) (fun hs => ?_)
      · refine lv_aload_n hx hb dJ7_fill_d0a16_12 rfl (lv_at hl 0 rfl) ?_
        refine lv_iload_n hx hb dJ7_fill_d0a16_13 rfl (lv_at hl 2 rfl) ?_
        refine lv_lload_n hx hb dJ7_fill_d0a16_14 rfl (lv_at hl 1 rfl) ?_
        refine k_last hx hb hK hP hD hSz 0 2 rfl rfl hm0 hs dJ7_fill_d0a16_15 (fun Hz lz hP hD hSz hs => ?_)
        have hP : va_P D vwCl [(q0, .inl (cJ, m0, .inr (.inl (mL (upA a_arg0 l3 l1)))))] Hz := hP
        have hD : va_D Az [(q0, .inl (cJ, m0, .inr (.inl (mL (upA a_arg0 l3 l1)))))] := hD
        refine k_iinc (x := l3) (k := 2) (lv' := [(3, .int (iI (l3 + 1))), (0, .ref q0), (1, .long (iL l1)), (4, .int (iI l4))]) hx hb dJ7_fill_d0a16_16 hl rfl (by decide) rfl (fun ls hl => ?_)
        refine lv_goto (tgt := 6) hx hb dJ7_fill_d0a16_19 (by decide) ?_
        exact ih (upA a_arg0 l3 l1) l1 (l3 + 1) l4 y0 hs Hz lz hP hD hSz ls (lv_sub hl [1, 2, 0, 3] rfl) kx
      · cases hs
        exact kx Hz lz hP hD hSz ls (lv_sub hl [] rfl)
  refine (?_ : ∀ (Hz : Heap) (lz : List Loc), va_P D vwCl [(q0, .inl (cJ, m0, .inr (.inl (mL a_arg0))))] Hz → va_D Az [(q0, .inl (cJ, m0, .inr (.inl (mL a_arg0))))] → va_S Az s.heap Hz lz → W p l e (headSpec wsJ7_fill_d0a16 rm_J7_fill_d0a16).room s m args below meth c Hz lz 0 0 (MQ below (QW D vwCl none wz Az) args s 0 0 Az) (F0 m 0 ls [])) s.heap [] hP hD hSz
  intro Hz lz hP hD hSz
  refine k_iconst (n := 0) hx hb dJ7_fill_d0a16_0 ?_
  refine lv_istore_n (lv' := [(3, .int (iI 0)), (0, .ref q0), (1, .long (iL pz1))]) hx hb dJ7_fill_d0a16_1 rfl hl (by decide) rfl (fun ls hl => ?_)
  refine lv_aload_n hx hb dJ7_fill_d0a16_2 rfl (lv_at hl 1 rfl) ?_
  refine va_alen (v := iI ((m0 : Nat) : Int)) hx hb hK hP 0 2 rfl rfl (iI_nat _) dJ7_fill_d0a16_3 ?_
  refine lv_istore (lv' := [(4, .int (iI ((m0 : Nat) : Int))), (3, .int (iI 0)), (0, .ref q0), (1, .long (iL pz1))]) hx hb dJ7_fill_d0a16_4 hl (by decide) rfl (fun ls hl => ?_)
  obtain ⟨ez1, hq, hs⟩ := bd1_some hs
  refine Lz6 FU a_arg0 pz1 0 ((m0 : Nat) : Int) ez1 hq Hz lz hP hD hSz ls (lv_sub hl [2, 3, 1, 0] rfl) ?_
  intro Hz lz hP hD hSz ls hl
  cases hs
  exact k_vret_w hx hb hr hlk (by rw [hw1]; exact hP) hSz dJ7_fill_d0a16_22 rfl
/-! X0_storedSize -/
set_option maxHeartbeats 4000000 in
set_option maxRecDepth 100000 in
theorem c_X0_storedSize (l : Launch) (D : va_G) (cI cZ cJ : ClassId) {pz0 : Int} {r : Int} (hs : s_X0_storedSize pz0 = some r) : Met l yX0_storedSize wsX0_storedSize rm_X0_storedSize (PR D vwCl [(cI, .int), (cZ, .boolean), (cJ, .long)] [.int (iI pz0)] []) (QR (some (.int (iI r)))) 0 0 (fun _ => False) := by
  refine Met.ofW (cc := cX0_storedSize) (maxL := 1) (ret := (some .int)) (by decide) rfl ?_
  intro p e s m args below meth c s₁ B hml hv
  obtain ⟨hav, hP, hK⟩ := hv
  have hx := B.exec
  have hb := B.bytes
  have hr := B.returns
  have hts := atoms_spec (ws := wsX0_storedSize) B.pre
  have hown : s.vm.findClass RX0 = some m.cls := findClass_of_methodNamed B.named
  have hlk := B.notSynchronized
  have hl := lv_entry ([.int (iI pz0)]) (n := 1) (Nat.le_of_ble_eq_true rfl)
  rw [show entryFrame m args 1 = entryFrame m ([.int (iI pz0)] : List Value).toArray 1 from by rw [hav], lg_entry_eq]
  generalize (lg_sl ([.int (iI pz0)]) ++ List.replicate (1 - (lg_sl ([.int (iI pz0)])).length) Slot.unset).toArray = ls at hl ⊢
  have hl : lv_has ls 1 [(0, .int (iI pz0))] := hl
  unfold s_X0_storedSize at hs
  refine lv_iload_n hx hb dX0_storedSize_0 rfl (lv_at hl 0 rfl) ?_
  refine lv_iload_n hx hb dX0_storedSize_1 rfl (lv_at hl 0 rfl) ?_
  refine k_ineg hx hb dX0_storedSize_2 ?_
  refine k_iand hx hb dX0_storedSize_3 ?_
  cases hs
  exact k_iret_r hx hb hr hlk rfl dX0_storedSize_4 rfl
/-! X0_insert -/
set_option maxHeartbeats 4000000 in
set_option maxRecDepth 100000 in
theorem c_X0_insert (l : Launch) (D : va_G) (cI cZ cJ : ClassId) {q0 q1 : Nat} {x_count : Int} {a_members : (Int → Int)} {pz1 : Int} {r : Int} {y_x_count : Int} {y_a_members : (Int → Int)} {sz : Nat} (hs : s_X0_insert x_count a_members pz1 = some (r, y_x_count, y_a_members)) : Met l yX0_insert wsX0_insert rm_X0_insert (PW D vwCl [(cI, .int), (cZ, .boolean), (cJ, .long)] [.ref q0, .int (iI pz1)] [(q0, .inr (0, [.ref q1, .int (iI x_count)])), (q1, .inl (cI, 127, .inl (mI a_members)))] sz) (QW D vwCl (some (.int (iI r))) [(q0, .inr (0, [.ref q1, .int (iI y_x_count)])), (q1, .inl (cI, 127, .inl (mI y_a_members)))] (va_A [(q0, .inr (0, [.ref q1, .int (iI x_count)])), (q1, .inl (cI, 127, .inl (mI a_members)))] sz)) 0 0 (va_A [(q0, .inr (0, [.ref q1, .int (iI x_count)])), (q1, .inl (cI, 127, .inl (mI a_members)))] sz) := by
  refine Met.ofW (cc := cX0_insert) (maxL := 2) (ret := (some .int)) (by decide) rfl ?_
  intro p e s m args below meth c s₁ B hml hv
  obtain ⟨hav, hsz, hP, hK, hD0⟩ := hv
  have hx := B.exec
  have hb := B.bytes
  have hr := B.returns
  have hts := atoms_spec (ws := wsX0_insert) B.pre
  have hown : s.vm.findClass RX0 = some m.cls := findClass_of_methodNamed B.named
  have hlk := B.notSynchronized
  have hf15 : (Cond.fieldLink RX0 15 "KeywordMatcher$BucketSet" "count" "I").before args s = true := hts _ (List.mem_of_getElem? (i := 1) rfl)
  have hiX0 : ∀ w ∈ wsX00, w ∈ wsX0_insert := fun w h => List.mem_cons_of_mem _ (List.mem_append_right _ h)
  have hf9 : (Cond.fieldLink RX0 9 "KeywordMatcher$BucketSet" "members" "[I").before args s = true := hts _ (List.mem_of_getElem? (i := 2) rfl)
  subst hsz
  have hD := hD0.self (sz := s.heap.size)
  generalize hAe : va_A [(q0, .inr (0, [.ref q1, .int (iI x_count)])), (q1, .inl (cI, 127, .inl (mI a_members)))] s.heap.size = Az at hD ⊢
  have hA : ∀ q : Nat, s.heap.size ≤ q → Az q := fun q h => by rw [← hAe]; exact Or.inr h
  clear hAe
  have hSz : va_S Az s.heap s.heap [] := va_S.rf
  obtain ⟨wz, hw1⟩ : ∃ z : va_W, z = [(q0, .inr (0, [.ref q1, .int (iI y_x_count)])), (q1, .inl (cI, 127, .inl (mI y_a_members)))] := ⟨_, rfl⟩
  rw [← hw1]
  have hl := lv_entry ([.ref q0, .int (iI pz1)]) (n := 2) (Nat.le_of_ble_eq_true rfl)
  rw [show entryFrame m args 2 = entryFrame m ([.ref q0, .int (iI pz1)] : List Value).toArray 2 from by rw [hav], lg_entry_eq]
  generalize (lg_sl ([.ref q0, .int (iI pz1)]) ++ List.replicate (2 - (lg_sl ([.ref q0, .int (iI pz1)])).length) Slot.unset).toArray = ls at hl ⊢
  have hl : lv_has ls 2 [(0, .ref q0), (1, .int (iI pz1))] := hl
  unfold s_X0_insert at hs
  refine (?_ : ∀ (Hz : Heap) (lz : List Loc), va_P D vwCl [(q0, .inr (0, [.ref q1, .int (iI x_count)])), (q1, .inl (cI, 127, .inl (mI a_members)))] Hz → va_D Az [(q0, .inr (0, [.ref q1, .int (iI x_count)])), (q1, .inl (cI, 127, .inl (mI a_members)))] → va_S Az s.heap Hz lz → W p l e (headSpec wsX0_insert rm_X0_insert).room s m args below meth c Hz lz 0 0 (MQ below (QW D vwCl (some (.int (iI r))) wz Az) args s 0 0 Az) (F0 m 0 ls [])) s.heap [] hP hD hSz
  intro Hz lz hP hD hSz
  refine lv_aload_n hx hb dX0_insert_0 rfl (lv_at hl 0 rfl) ?_
  refine va_get (ci := 0) (v := .int (iI x_count)) (C := RX0) (T := TX0) (N := 2) hx hb hts hiX0 hown hK hP 0 rfl rfl 1 (by decide) hf15 (fun _ h9 => h9) rfl dX0_insert_1 ?_
  refine k_bipush (n := 127) hx hb (by decide) dX0_insert_4 ?_
  refine k_icmp_lt (tgt := 11) hx hb hs dX0_insert_6 (by decide) (fun hs => ?_) (fun hs => ?_)
  · refine lv_aload_n hx hb dX0_insert_11 rfl (lv_at hl 0 rfl) ?_
    refine va_get (ci := 0) (v := .ref q1) (C := RX0) (T := TX0) (N := 2) hx hb hts hiX0 hown hK hP 0 rfl rfl 0 (by decide) hf9 (fun _ h9 => h9) rfl dX0_insert_12 ?_
    refine lv_aload_n hx hb dX0_insert_15 rfl (lv_at hl 0 rfl) ?_
    refine va_get (ci := 0) (v := .int (iI x_count)) (C := RX0) (T := TX0) (N := 2) hx hb hts hiX0 hown hK hP 0 rfl rfl 1 (by decide) hf15 (fun _ h9 => h9) rfl dX0_insert_16 ?_
    refine lv_iload_n hx hb dX0_insert_19 rfl (lv_at hl 1 rfl) ?_
    refine k_iast hx hb hK hP hD hSz 1 0 rfl rfl (Nat.le_of_ble_eq_true rfl) hs dX0_insert_20 (fun Hz lz hP hD hSz hs => ?_)
    have hP : va_P D vwCl [(q0, .inr (0, [.ref q1, .int (iI x_count)])), (q1, .inl (cI, 127, .inl (mI (upA a_members x_count pz1))))] Hz := hP
    have hD : va_D Az [(q0, .inr (0, [.ref q1, .int (iI x_count)])), (q1, .inl (cI, 127, .inl (mI (upA a_members x_count pz1))))] := hD
    refine lv_aload_n hx hb dX0_insert_21 rfl (lv_at hl 0 rfl) ?_
    refine lv_dup hx hb dX0_insert_22 rfl ?_
    refine va_get (ci := 0) (v := .int (iI x_count)) (C := RX0) (T := TX0) (N := 2) hx hb hts hiX0 hown hK hP 0 rfl rfl 1 (by decide) hf15 (fun _ h9 => h9) rfl dX0_insert_23 ?_
    refine k_iconst (n := 1) hx hb dX0_insert_26 ?_
    refine k_iadd hx hb dX0_insert_27 ?_
    refine va_put (ci := 0) (v := .int (iI (x_count + 1))) (ty := .int) (C := RX0) (T := TX0) (N := 2) hx hb hts hiX0 tyX0 tyX0_ok nmX0 hown hK hP hD hSz 0 rfl rfl 1 (by decide) hf15 (fun _ h9 => h9) rfl (by decide +kernel) rfl rfl (Nat.le_of_ble_eq_true rfl) dX0_insert_28 (fun Hz lz hP hD hSz => ?_)
    have hP : va_P D vwCl [(q0, .inr (0, [.ref q1, .int (iI (x_count + 1))])), (q1, .inl (cI, 127, .inl (mI (upA a_members x_count pz1))))] Hz := hP
    have hD : va_D Az [(q0, .inr (0, [.ref q1, .int (iI (x_count + 1))])), (q1, .inl (cI, 127, .inl (mI (upA a_members x_count pz1))))] := hD
    refine lv_aload_n hx hb dX0_insert_31 rfl (lv_at hl 0 rfl) ?_
    refine va_get (ci := 0) (v := .int (iI (x_count + 1))) (C := RX0) (T := TX0) (N := 2) hx hb hts hiX0 hown hK hP 0 rfl rfl 1 (by decide) hf15 (fun _ h9 => h9) rfl dX0_insert_32 ?_
    obtain ⟨vz1, hcz, hs⟩ := bd1_some hs
    refine k_rS (As := [.int (iI (x_count + 1))]) (rest := []) (st1 := [.int (iI vz1)]) ⟨hx, hb, hml, hown, hts⟩ hK (va_P_nil (D := D) (cl := vwCl)) (c_X0_storedSize l D cI cZ cJ hcz) (va_cwS 1 hts gX0_insert_X0_storedSize rfl rfl rfl (by decide +kernel) ⟨Nat.le_of_ble_eq_true rfl, Nat.le_of_ble_eq_true rfl⟩) rfl hl.1 rfl (lv_room (Nat.le_of_ble_eq_true rfl)) dX0_insert_35 ⟨Nat.zero_le _, Nat.zero_le _⟩ rfl ?_
    cases hs
    exact k_iret_w hx hb hr hlk (by rw [hw1]; exact hP) hSz dX0_insert_38 rfl
  · refine k_iconst (n := 0) hx hb dX0_insert_9 ?_
    cases hs
    exact k_iret_w hx hb hr hlk (by rw [hw1]; exact hP) hSz dX0_insert_10 rfl
/-! X0_clear -/
set_option maxHeartbeats 4000000 in
set_option maxRecDepth 100000 in
theorem c_X0_clear (l : Launch) (D : va_G) (cI cZ cJ : ClassId) {q0 q1 : Nat} {x_count : Int} {a_members : (Int → Int)} {y_x_count : Int} {sz : Nat} (hs : s_X0_clear x_count = some y_x_count) : Met l yX0_clear wsX0_clear rm_X0_clear (PW D vwCl [(cI, .int), (cZ, .boolean), (cJ, .long)] [.ref q0] [(q0, .inr (0, [.ref q1, .int (iI x_count)])), (q1, .inl (cI, 127, .inl (mI a_members)))] sz) (QW D vwCl none [(q0, .inr (0, [.ref q1, .int (iI y_x_count)])), (q1, .inl (cI, 127, .inl (mI a_members)))] (va_A [(q0, .inr (0, [.ref q1, .int (iI x_count)])), (q1, .inl (cI, 127, .inl (mI a_members)))] sz)) 0 0 (va_A [(q0, .inr (0, [.ref q1, .int (iI x_count)])), (q1, .inl (cI, 127, .inl (mI a_members)))] sz) := by
  refine Met.ofW (cc := cX0_clear) (maxL := 1) (ret := none) (by decide) rfl ?_
  intro p e s m args below meth c s₁ B hml hv
  obtain ⟨hav, hsz, hP, hK, hD0⟩ := hv
  have hx := B.exec
  have hb := B.bytes
  have hr := B.returns
  have hts := atoms_spec (ws := wsX0_clear) B.pre
  have hown : s.vm.findClass RX0 = some m.cls := findClass_of_methodNamed B.named
  have hlk := B.notSynchronized
  have hf15 : (Cond.fieldLink RX0 15 "KeywordMatcher$BucketSet" "count" "I").before args s = true := hts _ (List.mem_of_getElem? (i := 1) rfl)
  have hiX0 : ∀ w ∈ wsX00, w ∈ wsX0_clear := fun w h => List.mem_cons_of_mem _ (List.mem_append_right _ h)
  subst hsz
  have hD := hD0.self (sz := s.heap.size)
  generalize hAe : va_A [(q0, .inr (0, [.ref q1, .int (iI x_count)])), (q1, .inl (cI, 127, .inl (mI a_members)))] s.heap.size = Az at hD ⊢
  have hA : ∀ q : Nat, s.heap.size ≤ q → Az q := fun q h => by rw [← hAe]; exact Or.inr h
  clear hAe
  have hSz : va_S Az s.heap s.heap [] := va_S.rf
  obtain ⟨wz, hw1⟩ : ∃ z : va_W, z = [(q0, .inr (0, [.ref q1, .int (iI y_x_count)])), (q1, .inl (cI, 127, .inl (mI a_members)))] := ⟨_, rfl⟩
  rw [← hw1]
  have hl := lv_entry ([.ref q0]) (n := 1) (Nat.le_of_ble_eq_true rfl)
  rw [show entryFrame m args 1 = entryFrame m ([.ref q0] : List Value).toArray 1 from by rw [hav], lg_entry_eq]
  generalize (lg_sl ([.ref q0]) ++ List.replicate (1 - (lg_sl ([.ref q0])).length) Slot.unset).toArray = ls at hl ⊢
  have hl : lv_has ls 1 [(0, .ref q0)] := hl
  unfold s_X0_clear at hs
  refine (?_ : ∀ (Hz : Heap) (lz : List Loc), va_P D vwCl [(q0, .inr (0, [.ref q1, .int (iI x_count)])), (q1, .inl (cI, 127, .inl (mI a_members)))] Hz → va_D Az [(q0, .inr (0, [.ref q1, .int (iI x_count)])), (q1, .inl (cI, 127, .inl (mI a_members)))] → va_S Az s.heap Hz lz → W p l e (headSpec wsX0_clear rm_X0_clear).room s m args below meth c Hz lz 0 0 (MQ below (QW D vwCl none wz Az) args s 0 0 Az) (F0 m 0 ls [])) s.heap [] hP hD hSz
  intro Hz lz hP hD hSz
  refine lv_aload_n hx hb dX0_clear_0 rfl (lv_at hl 0 rfl) ?_
  refine k_iconst (n := 0) hx hb dX0_clear_1 ?_
  refine va_put (ci := 0) (v := .int (iI 0)) (ty := .int) (C := RX0) (T := TX0) (N := 2) hx hb hts hiX0 tyX0 tyX0_ok nmX0 hown hK hP hD hSz 0 rfl rfl 1 (by decide) hf15 (fun _ h9 => h9) rfl (by decide +kernel) rfl rfl (Nat.le_of_ble_eq_true rfl) dX0_clear_2 (fun Hz lz hP hD hSz => ?_)
  have hP : va_P D vwCl [(q0, .inr (0, [.ref q1, .int (iI 0)])), (q1, .inl (cI, 127, .inl (mI a_members)))] Hz := hP
  have hD : va_D Az [(q0, .inr (0, [.ref q1, .int (iI 0)])), (q1, .inl (cI, 127, .inl (mI a_members)))] := hD
  cases hs
  exact k_vret_w hx hb hr hlk (by rw [hw1]; exact hP) hSz dX0_clear_5 rfl
/-! X0_sizeAt -/
set_option maxHeartbeats 4000000 in
set_option maxRecDepth 100000 in
theorem c_X0_sizeAt (l : Launch) (D : va_G) (cI cZ cJ : ClassId) {q0 q1 : Nat} {x_count : Int} {a_members : (Int → Int)} {pz1 : Int} {r : Int} (hs : s_X0_sizeAt x_count pz1 = some r) : Met l yX0_sizeAt wsX0_sizeAt rm_X0_sizeAt (PR D vwCl [(cI, .int), (cZ, .boolean), (cJ, .long)] [.ref q0, .int (iI pz1)] [(q0, .inr (0, [.ref q1, .int (iI x_count)])), (q1, .inl (cI, 127, .inl (mI a_members)))]) (QR (some (.int (iI r)))) 0 0 (fun _ => False) := by
  refine Met.ofW (cc := cX0_sizeAt) (maxL := 2) (ret := (some .int)) (by decide) rfl ?_
  intro p e s m args below meth c s₁ B hml hv
  obtain ⟨hav, hP, hK⟩ := hv
  have hx := B.exec
  have hb := B.bytes
  have hr := B.returns
  have hts := atoms_spec (ws := wsX0_sizeAt) B.pre
  have hown : s.vm.findClass RX0 = some m.cls := findClass_of_methodNamed B.named
  have hlk := B.notSynchronized
  have hf15 : (Cond.fieldLink RX0 15 "KeywordMatcher$BucketSet" "count" "I").before args s = true := hts _ (List.mem_of_getElem? (i := 1) rfl)
  have hiX0 : ∀ w ∈ wsX00, w ∈ wsX0_sizeAt := fun w h => List.mem_cons_of_mem _ (List.mem_append_right _ h)
  have hl := lv_entry ([.ref q0, .int (iI pz1)]) (n := 2) (Nat.le_of_ble_eq_true rfl)
  rw [show entryFrame m args 2 = entryFrame m ([.ref q0, .int (iI pz1)] : List Value).toArray 2 from by rw [hav], lg_entry_eq]
  generalize (lg_sl ([.ref q0, .int (iI pz1)]) ++ List.replicate (2 - (lg_sl ([.ref q0, .int (iI pz1)])).length) Slot.unset).toArray = ls at hl ⊢
  have hl : lv_has ls 2 [(0, .ref q0), (1, .int (iI pz1))] := hl
  unfold s_X0_sizeAt at hs
  refine lv_aload_n hx hb dX0_sizeAt_0 rfl (lv_at hl 0 rfl) ?_
  refine va_get (ci := 0) (v := .int (iI x_count)) (C := RX0) (T := TX0) (N := 2) hx hb hts hiX0 hown hK hP 0 rfl rfl 1 (by decide) hf15 (fun _ h9 => h9) rfl dX0_sizeAt_1 ?_
  refine k_iconst (n := 1) hx hb dX0_sizeAt_4 ?_
  refine lv_iload_n hx hb dX0_sizeAt_5 rfl (lv_at hl 1 rfl) ?_
  refine k_ishl hx hb dX0_sizeAt_6 ?_
  refine k_iand hx hb dX0_sizeAt_7 ?_
  cases hs
  exact k_iret_r hx hb hr hlk rfl dX0_sizeAt_8 rfl
/-! X0_firstAt -/
set_option maxHeartbeats 4000000 in
set_option maxRecDepth 100000 in
theorem c_X0_firstAt (l : Launch) (D : va_G) (cI cZ cJ : ClassId) {q0 q1 : Nat} {x_count : Int} {a_members : (Int → Int)} {pz1 : Int} {r : Int} (hs : s_X0_firstAt x_count pz1 = some r) : Met l yX0_firstAt wsX0_firstAt rm_X0_firstAt (PR D vwCl [(cI, .int), (cZ, .boolean), (cJ, .long)] [.ref q0, .int (iI pz1)] [(q0, .inr (0, [.ref q1, .int (iI x_count)])), (q1, .inl (cI, 127, .inl (mI a_members)))]) (QR (some (.int (iI r)))) 0 0 (fun _ => False) := by
  refine Met.ofW (cc := cX0_firstAt) (maxL := 2) (ret := (some .int)) (by decide) rfl ?_
  intro p e s m args below meth c s₁ B hml hv
  obtain ⟨hav, hP, hK⟩ := hv
  have hx := B.exec
  have hb := B.bytes
  have hr := B.returns
  have hts := atoms_spec (ws := wsX0_firstAt) B.pre
  have hown : s.vm.findClass RX0 = some m.cls := findClass_of_methodNamed B.named
  have hlk := B.notSynchronized
  have hf15 : (Cond.fieldLink RX0 15 "KeywordMatcher$BucketSet" "count" "I").before args s = true := hts _ (List.mem_of_getElem? (i := 1) rfl)
  have hiX0 : ∀ w ∈ wsX00, w ∈ wsX0_firstAt := fun w h => List.mem_cons_of_mem _ (List.mem_append_right _ h)
  have hl := lv_entry ([.ref q0, .int (iI pz1)]) (n := 2) (Nat.le_of_ble_eq_true rfl)
  rw [show entryFrame m args 2 = entryFrame m ([.ref q0, .int (iI pz1)] : List Value).toArray 2 from by rw [hav], lg_entry_eq]
  generalize (lg_sl ([.ref q0, .int (iI pz1)]) ++ List.replicate (2 - (lg_sl ([.ref q0, .int (iI pz1)])).length) Slot.unset).toArray = ls at hl ⊢
  have hl : lv_has ls 2 [(0, .ref q0), (1, .int (iI pz1))] := hl
  unfold s_X0_firstAt at hs
  refine lv_aload_n hx hb dX0_firstAt_0 rfl (lv_at hl 0 rfl) ?_
  refine va_get (ci := 0) (v := .int (iI x_count)) (C := RX0) (T := TX0) (N := 2) hx hb hts hiX0 hown hK hP 0 rfl rfl 1 (by decide) hf15 (fun _ h9 => h9) rfl dX0_firstAt_1 ?_
  refine k_iconst (n := 2) hx hb dX0_firstAt_4 ?_
  refine lv_iload_n hx hb dX0_firstAt_5 rfl (lv_at hl 1 rfl) ?_
  refine k_ishl hx hb dX0_firstAt_6 ?_
  refine k_ineg hx hb dX0_firstAt_7 ?_
  refine k_iand hx hb dX0_firstAt_8 ?_
  cases hs
  exact k_iret_r hx hb hr hlk rfl dX0_firstAt_9 rfl
/-! X0_memberAt -/
set_option maxHeartbeats 4000000 in
set_option maxRecDepth 100000 in
theorem c_X0_memberAt (l : Launch) (D : va_G) (cI cZ cJ : ClassId) {q0 q1 : Nat} {x_count : Int} {a_members : (Int → Int)} {pz1 : Int} {r : Int} (hs : s_X0_memberAt x_count a_members pz1 = some r) : Met l yX0_memberAt wsX0_memberAt rm_X0_memberAt (PR D vwCl [(cI, .int), (cZ, .boolean), (cJ, .long)] [.ref q0, .int (iI pz1)] [(q0, .inr (0, [.ref q1, .int (iI x_count)])), (q1, .inl (cI, 127, .inl (mI a_members)))]) (QR (some (.int (iI r)))) 0 0 (fun _ => False) := by
  refine Met.ofW (cc := cX0_memberAt) (maxL := 2) (ret := (some .int)) (by decide) rfl ?_
  intro p e s m args below meth c s₁ B hml hv
  obtain ⟨hav, hP, hK⟩ := hv
  have hx := B.exec
  have hb := B.bytes
  have hr := B.returns
  have hts := atoms_spec (ws := wsX0_memberAt) B.pre
  have hown : s.vm.findClass RX0 = some m.cls := findClass_of_methodNamed B.named
  have hlk := B.notSynchronized
  have hf15 : (Cond.fieldLink RX0 15 "KeywordMatcher$BucketSet" "count" "I").before args s = true := hts _ (List.mem_of_getElem? (i := 1) rfl)
  have hiX0 : ∀ w ∈ wsX00, w ∈ wsX0_memberAt := fun w h => List.mem_cons_of_mem _ (List.mem_append_right _ h)
  have hf9 : (Cond.fieldLink RX0 9 "KeywordMatcher$BucketSet" "members" "[I").before args s = true := hts _ (List.mem_of_getElem? (i := 2) rfl)
  have hl := lv_entry ([.ref q0, .int (iI pz1)]) (n := 2) (Nat.le_of_ble_eq_true rfl)
  rw [show entryFrame m args 2 = entryFrame m ([.ref q0, .int (iI pz1)] : List Value).toArray 2 from by rw [hav], lg_entry_eq]
  generalize (lg_sl ([.ref q0, .int (iI pz1)]) ++ List.replicate (2 - (lg_sl ([.ref q0, .int (iI pz1)])).length) Slot.unset).toArray = ls at hl ⊢
  have hl : lv_has ls 2 [(0, .ref q0), (1, .int (iI pz1))] := hl
  unfold s_X0_memberAt at hs
  refine lv_iload_n hx hb dX0_memberAt_0 rfl (lv_at hl 1 rfl) ?_
  refine k_if_lt (tgt := 21) hx hb hs dX0_memberAt_1 (by decide) (fun hs => ?_) (fun hs => ?_)
  · refine k_iconst (n := (-1)) hx hb dX0_memberAt_21 ?_
    cases hs
    exact k_iret_r hx hb hr hlk rfl dX0_memberAt_22 rfl
  · refine lv_iload_n hx hb dX0_memberAt_4 rfl (lv_at hl 1 rfl) ?_
    refine lv_aload_n hx hb dX0_memberAt_5 rfl (lv_at hl 0 rfl) ?_
    refine va_get (ci := 0) (v := .int (iI x_count)) (C := RX0) (T := TX0) (N := 2) hx hb hts hiX0 hown hK hP 0 rfl rfl 1 (by decide) hf15 (fun _ h9 => h9) rfl dX0_memberAt_6 ?_
    refine k_icmp_ge (tgt := 21) hx hb hs dX0_memberAt_9 (by decide) (fun hs => ?_) (fun hs => ?_)
    · refine lv_aload_n hx hb dX0_memberAt_12 rfl (lv_at hl 0 rfl) ?_
      refine va_get (ci := 0) (v := .ref q1) (C := RX0) (T := TX0) (N := 2) hx hb hts hiX0 hown hK hP 0 rfl rfl 0 (by decide) hf9 (fun _ h9 => h9) rfl dX0_memberAt_13 ?_
      refine lv_iload_n hx hb dX0_memberAt_16 rfl (lv_at hl 1 rfl) ?_
      refine k_iald hx hb hK hP 1 0 rfl rfl (Nat.le_of_ble_eq_true rfl) hs dX0_memberAt_17 (fun vz1 hs => ?_)
      refine lv_goto (tgt := 22) hx hb dX0_memberAt_18 (by decide) ?_
      cases hs
      exact k_iret_r hx hb hr hlk rfl dX0_memberAt_22 rfl
    · refine k_iconst (n := (-1)) hx hb dX0_memberAt_21 ?_
      cases hs
      exact k_iret_r hx hb hr hlk rfl dX0_memberAt_22 rfl
/-! X0_levelWith -/
set_option maxHeartbeats 4000000 in
set_option maxRecDepth 100000 in
theorem c_X0_levelWith (l : Launch) (D : va_G) (cI cZ cJ : ClassId) {q0 q1 : Nat} {x_count : Int} {a_members : (Int → Int)} {pz1 : Int} {r : Int} (hs : s_X0_levelWith x_count a_members pz1 = some r) : Met l yX0_levelWith wsX0_levelWith rm_X0_levelWith (PR D vwCl [(cI, .int), (cZ, .boolean), (cJ, .long)] [.ref q0, .int (iI pz1)] [(q0, .inr (0, [.ref q1, .int (iI x_count)])), (q1, .inl (cI, 127, .inl (mI a_members)))]) (QR (some (.int (iI r)))) 0 0 (fun _ => False) := by
  refine Met.ofW (cc := cX0_levelWith) (maxL := 6) (ret := (some .int)) (by decide) rfl ?_
  intro p e s m args below meth c s₁ B hml hv
  obtain ⟨hav, hP, hK⟩ := hv
  have hx := B.exec
  have hb := B.bytes
  have hr := B.returns
  have hts := atoms_spec (ws := wsX0_levelWith) B.pre
  have hown : s.vm.findClass RX0 = some m.cls := findClass_of_methodNamed B.named
  have hlk := B.notSynchronized
  have hl := lv_entry ([.ref q0, .int (iI pz1)]) (n := 6) (Nat.le_of_ble_eq_true rfl)
  rw [show entryFrame m args 6 = entryFrame m ([.ref q0, .int (iI pz1)] : List Value).toArray 6 from by rw [hav], lg_entry_eq]
  generalize (lg_sl ([.ref q0, .int (iI pz1)]) ++ List.replicate (6 - (lg_sl ([.ref q0, .int (iI pz1)])).length) Slot.unset).toArray = ls at hl ⊢
  have hl : lv_has ls 6 [(0, .ref q0), (1, .int (iI pz1))] := hl
  unfold s_X0_levelWith at hs
  have Lz26 : ∀ (fu : Nat) (l1 : Int) (l2 : Int) (l4 : Int) (l5 : Int) (outz : (Int) ⊕ (Unit)), s_X0_levelWith_26 fu x_count a_members l1 l2 l4 l5 = some outz → ∀ ls : Array Slot, lv_has ls 6 [(0, .ref q0), (1, .int (iI l1)), (2, .int (iI l2)), (4, .int (iI l4)), (5, .int (iI l5))] → (∀ rr, outz = .inl rr → rr = r) → (outz = .inr () → ∀ ls : Array Slot, lv_has ls 6 [(0, .ref q0), (1, .int (iI l1)), (2, .int (iI l2))] → W p l e (headSpec wsX0_levelWith rm_X0_levelWith).room s m args below meth c s.heap [] 0 0 (MQ below (QR (some (.int (iI r)))) args s 0 0 (fun _ => False)) (F0 m 51 ls [])) → W p l e (headSpec wsX0_levelWith rm_X0_levelWith).room s m args below meth c s.heap [] 0 0 (MQ below (QR (some (.int (iI r)))) args s 0 0 (fun _ => False)) (F0 m 26 ls []) := by
    intro fu
    induction fu with
    | zero => intro l1 l2 l4 l5 outz hs; cases hs
    | succ fu ih =>
      intro l1 l2 l4 l5 outz hs ls hl kr kx
      rw [s_X0_levelWith_26_s] at hs
      refine lv_iload hx hb dX0_levelWith_26 (lv_at hl 4 rfl) ?_
      refine lv_iload hx hb dX0_levelWith_28 (lv_at hl 3 rfl) ?_
      refine k_icmp_ge (tgt := 51) hx hb hs dX0_levelWith_30 (by decide) (fun hs => ?_) (fun hs => ?_)
      · refine lv_aload_n hx hb dX0_levelWith_33 rfl (lv_at hl 0 rfl) ?_
        refine lv_iload hx hb dX0_levelWith_34 (lv_at hl 4 rfl) ?_
        obtain ⟨vz3, hcz, hs⟩ := bd1_some hs
        have hPc : va_P D vwCl [(q0, .inr (0, [.ref q1, .int (iI x_count)])), (q1, .inl (cI, 127, .inl (mI a_members)))] s.heap := hP.sub [0, 1] rfl
        refine k_rV (As := [.int (iI l5)]) (rest := []) (st1 := [.int (iI vz3)]) ⟨hx, hb, hml, hown, hts⟩ hK hPc (c_X0_memberAt l D cI cZ cJ hcz) (cwV 1 hts gX0_levelWith_X0_memberAt rfl rfl rfl (by decide +kernel) ⟨Nat.le_of_ble_eq_true rfl, Nat.le_of_ble_eq_true rfl⟩) 0 rfl rfl rfl rfl hl.1 rfl (lv_room (Nat.le_of_ble_eq_true rfl)) dX0_levelWith_36 ⟨Nat.zero_le _, Nat.zero_le _⟩ rfl ?_
        refine lv_iload_n hx hb dX0_levelWith_39 rfl (lv_at hl 1 rfl) ?_
        refine k_icmp_ne (tgt := 45) hx hb hs dX0_levelWith_40 (by decide) (fun hs => ?_) (fun hs => ?_)
        · refine lv_iload_n hx hb dX0_levelWith_43 rfl (lv_at hl 2 rfl) ?_
          have hs := kr _ (Option.some.inj hs).symm
          cases hs
          exact k_iret_r hx hb hr hlk rfl dX0_levelWith_44 rfl
        · refine k_iinc (x := l5) (k := 4) (lv' := [(5, .int (iI (l5 + 1))), (0, .ref q0), (1, .int (iI l1)), (2, .int (iI l2)), (4, .int (iI l4))]) hx hb dX0_levelWith_45 hl rfl (by decide) rfl (fun ls hl => ?_)
          refine lv_goto (tgt := 26) hx hb dX0_levelWith_48 (by decide) ?_
          exact ih l1 l2 l4 (l5 + 1) outz hs ls (lv_sub hl [1, 2, 3, 4, 0] rfl) kr kx
      · cases hs
        exact kx  rfl ls (lv_sub hl [0, 1, 2] rfl)
  have Lz2 : ∀ (fu : Nat) (l1 : Int) (l2 : Int), s_X0_levelWith_2 fu x_count a_members l1 l2 = some r → ∀ ls : Array Slot, lv_has ls 6 [(0, .ref q0), (1, .int (iI l1)), (2, .int (iI l2))] → W p l e (headSpec wsX0_levelWith rm_X0_levelWith).room s m args below meth c s.heap [] 0 0 (MQ below (QR (some (.int (iI r)))) args s 0 0 (fun _ => False)) (F0 m 2 ls []) := by
    intro fu
    induction fu with
    | zero => intro l1 l2 hs; cases hs
    | succ fu ih =>
      intro l1 l2 hs ls hl
      rw [s_X0_levelWith_2_s] at hs
      refine lv_iload_n hx hb dX0_levelWith_2 rfl (lv_at hl 2 rfl) ?_
      refine k_bipush (n := 7) hx hb (by decide) dX0_levelWith_3 ?_
      refine k_icmp_ge (tgt := 57) hx hb hs dX0_levelWith_5 (by decide) (fun hs => ?_) (fun hs => ?_)
      · refine lv_aload_n hx hb dX0_levelWith_8 rfl (lv_at hl 0 rfl) ?_
        refine lv_iload_n hx hb dX0_levelWith_9 rfl (lv_at hl 2 rfl) ?_
        obtain ⟨vz1, hcz, hs⟩ := bd1_some hs
        have hPc : va_P D vwCl [(q0, .inr (0, [.ref q1, .int (iI x_count)])), (q1, .inl (cI, 127, .inl (mI a_members)))] s.heap := hP.sub [0, 1] rfl
        refine k_rV (As := [.int (iI l2)]) (rest := []) (st1 := [.int (iI vz1)]) ⟨hx, hb, hml, hown, hts⟩ hK hPc (c_X0_firstAt l D cI cZ cJ hcz) (cwV 1 hts gX0_levelWith_X0_firstAt rfl rfl rfl (by decide +kernel) ⟨Nat.le_of_ble_eq_true rfl, Nat.le_of_ble_eq_true rfl⟩) 0 rfl rfl rfl rfl hl.1 rfl (lv_room (Nat.le_of_ble_eq_true rfl)) dX0_levelWith_10 ⟨Nat.zero_le _, Nat.zero_le _⟩ rfl ?_
        refine lv_istore_n (lv' := [(3, .int (iI vz1)), (0, .ref q0), (1, .int (iI l1)), (2, .int (iI l2))]) hx hb dX0_levelWith_13 rfl hl (by decide) rfl (fun ls hl => ?_)
        refine lv_iload_n hx hb dX0_levelWith_14 rfl (lv_at hl 0 rfl) ?_
        refine lv_aload_n hx hb dX0_levelWith_15 rfl (lv_at hl 1 rfl) ?_
        refine lv_iload_n hx hb dX0_levelWith_16 rfl (lv_at hl 3 rfl) ?_
        obtain ⟨vz2, hcz, hs⟩ := bd1_some hs
        have hPc : va_P D vwCl [(q0, .inr (0, [.ref q1, .int (iI x_count)])), (q1, .inl (cI, 127, .inl (mI a_members)))] s.heap := hP.sub [0, 1] rfl
        refine k_rV (As := [.int (iI l2)]) (rest := [.int (iI vz1)]) (st1 := [.int (iI vz2), .int (iI vz1)]) ⟨hx, hb, hml, hown, hts⟩ hK hPc (c_X0_sizeAt l D cI cZ cJ hcz) (cwV 1 hts gX0_levelWith_X0_sizeAt rfl rfl rfl (by decide +kernel) ⟨Nat.le_of_ble_eq_true rfl, Nat.le_of_ble_eq_true rfl⟩) 0 rfl rfl rfl rfl hl.1 rfl (lv_room (Nat.le_of_ble_eq_true rfl)) dX0_levelWith_17 ⟨Nat.zero_le _, Nat.zero_le _⟩ rfl ?_
        refine k_iadd hx hb dX0_levelWith_20 ?_
        refine lv_istore (lv' := [(4, .int (iI (vz1 + vz2))), (3, .int (iI vz1)), (0, .ref q0), (1, .int (iI l1)), (2, .int (iI l2))]) hx hb dX0_levelWith_21 hl (by decide) rfl (fun ls hl => ?_)
        refine lv_iload_n hx hb dX0_levelWith_23 rfl (lv_at hl 1 rfl) ?_
        refine lv_istore (lv' := [(5, .int (iI vz1)), (4, .int (iI (vz1 + vz2))), (3, .int (iI vz1)), (0, .ref q0), (1, .int (iI l1)), (2, .int (iI l2))]) hx hb dX0_levelWith_24 hl (by decide) rfl (fun ls hl => ?_)
        rcases bdS0_some hs with ⟨rz4, hq, hs⟩ | ⟨hq, hs⟩
        · refine Lz26 FU l1 l2 (vz1 + vz2) vz1 (.inl rz4) hq ls (lv_sub hl [3, 4, 5, 1, 0] rfl) (fun r9 h9 => by cases h9; exact Option.some.inj hs) (fun  h9 => by cases h9)
        · refine Lz26 FU l1 l2 (vz1 + vz2) vz1 (.inr ()) hq ls (lv_sub hl [3, 4, 5, 1, 0] rfl) (fun r9 h9 => by cases h9) ?_
          intro  h9 ls hl
          cases h9
          refine k_iinc (x := l2) (k := 2) (lv' := [(2, .int (iI (l2 + 1))), (0, .ref q0), (1, .int (iI l1))]) hx hb dX0_levelWith_51 hl rfl (by decide) rfl (fun ls hl => ?_)
          refine lv_goto (tgt := 2) hx hb dX0_levelWith_54 (by decide) ?_
          exact ih l1 (l2 + 1)  hs ls (lv_sub hl [1, 2, 0] rfl)
      · refine k_iconst (n := (-1)) hx hb dX0_levelWith_57 ?_
        cases hs
        exact k_iret_r hx hb hr hlk rfl dX0_levelWith_58 rfl
  refine k_iconst (n := 0) hx hb dX0_levelWith_0 ?_
  refine lv_istore_n (lv' := [(2, .int (iI 0)), (0, .ref q0), (1, .int (iI pz1))]) hx hb dX0_levelWith_1 rfl hl (by decide) rfl (fun ls hl => ?_)
  exact Lz2 FU pz1 0 hs ls (lv_sub hl [1, 2, 0] rfl)
/-! X1_clear -/
set_option maxHeartbeats 4000000 in
set_option maxRecDepth 100000 in
theorem c_X1_clear (l : Launch) (D : va_G) (cI cZ cJ : ClassId) {q0 q1 : Nat} {n0 : Nat} {x_length : Int} {a_bytes : (Int → Int)} {y_x_length : Int} {sz : Nat} (hn0 : n0 ≤ 2147483647) (hs : s_X1_clear n0 x_length = some y_x_length) : Met l yX1_clear wsX1_clear rm_X1_clear (PW D vwCl [(cI, .int), (cZ, .boolean), (cJ, .long)] [.ref q0] [(q0, .inr (1, [.ref q1, .int (iI x_length)])), (q1, .inl (cI, n0, .inl (mI a_bytes)))] sz) (QW D vwCl none [(q0, .inr (1, [.ref q1, .int (iI y_x_length)])), (q1, .inl (cI, n0, .inl (mI a_bytes)))] (va_A [(q0, .inr (1, [.ref q1, .int (iI x_length)])), (q1, .inl (cI, n0, .inl (mI a_bytes)))] sz)) 0 0 (va_A [(q0, .inr (1, [.ref q1, .int (iI x_length)])), (q1, .inl (cI, n0, .inl (mI a_bytes)))] sz) := by
  refine Met.ofW (cc := cX1_clear) (maxL := 1) (ret := none) (by decide) rfl ?_
  intro p e s m args below meth c s₁ B hml hv
  obtain ⟨hav, hsz, hP, hK, hD0⟩ := hv
  have hx := B.exec
  have hb := B.bytes
  have hr := B.returns
  have hts := atoms_spec (ws := wsX1_clear) B.pre
  have hown : s.vm.findClass RX1 = some m.cls := findClass_of_methodNamed B.named
  have hlk := B.notSynchronized
  have hf21 : (Cond.fieldLink RX1 21 "KeywordMatcher$ByteRow" "length" "I").before args s = true := hts _ (List.mem_of_getElem? (i := 1) rfl)
  have hiX1 : ∀ w ∈ wsX10, w ∈ wsX1_clear := fun w h => List.mem_cons_of_mem _ (List.mem_append_right _ h)
  subst hsz
  have hD := hD0.self (sz := s.heap.size)
  generalize hAe : va_A [(q0, .inr (1, [.ref q1, .int (iI x_length)])), (q1, .inl (cI, n0, .inl (mI a_bytes)))] s.heap.size = Az at hD ⊢
  have hA : ∀ q : Nat, s.heap.size ≤ q → Az q := fun q h => by rw [← hAe]; exact Or.inr h
  clear hAe
  have hSz : va_S Az s.heap s.heap [] := va_S.rf
  obtain ⟨wz, hw1⟩ : ∃ z : va_W, z = [(q0, .inr (1, [.ref q1, .int (iI y_x_length)])), (q1, .inl (cI, n0, .inl (mI a_bytes)))] := ⟨_, rfl⟩
  rw [← hw1]
  have hl := lv_entry ([.ref q0]) (n := 1) (Nat.le_of_ble_eq_true rfl)
  rw [show entryFrame m args 1 = entryFrame m ([.ref q0] : List Value).toArray 1 from by rw [hav], lg_entry_eq]
  generalize (lg_sl ([.ref q0]) ++ List.replicate (1 - (lg_sl ([.ref q0])).length) Slot.unset).toArray = ls at hl ⊢
  have hl : lv_has ls 1 [(0, .ref q0)] := hl
  unfold s_X1_clear at hs
  refine (?_ : ∀ (Hz : Heap) (lz : List Loc), va_P D vwCl [(q0, .inr (1, [.ref q1, .int (iI x_length)])), (q1, .inl (cI, n0, .inl (mI a_bytes)))] Hz → va_D Az [(q0, .inr (1, [.ref q1, .int (iI x_length)])), (q1, .inl (cI, n0, .inl (mI a_bytes)))] → va_S Az s.heap Hz lz → W p l e (headSpec wsX1_clear rm_X1_clear).room s m args below meth c Hz lz 0 0 (MQ below (QW D vwCl none wz Az) args s 0 0 Az) (F0 m 0 ls [])) s.heap [] hP hD hSz
  intro Hz lz hP hD hSz
  refine lv_aload_n hx hb dX1_clear_0 rfl (lv_at hl 0 rfl) ?_
  refine k_iconst (n := 0) hx hb dX1_clear_1 ?_
  refine va_put (ci := 1) (v := .int (iI 0)) (ty := .int) (C := RX1) (T := TX1) (N := 2) hx hb hts hiX1 tyX1 tyX1_ok nmX1 hown hK hP hD hSz 0 rfl rfl 1 (by decide) hf21 (fun _ h9 => h9) rfl (by decide +kernel) rfl rfl (Nat.le_of_ble_eq_true rfl) dX1_clear_2 (fun Hz lz hP hD hSz => ?_)
  have hP : va_P D vwCl [(q0, .inr (1, [.ref q1, .int (iI 0)])), (q1, .inl (cI, n0, .inl (mI a_bytes)))] Hz := hP
  have hD : va_D Az [(q0, .inr (1, [.ref q1, .int (iI 0)])), (q1, .inl (cI, n0, .inl (mI a_bytes)))] := hD
  cases hs
  exact k_vret_w hx hb hr hlk (by rw [hw1]; exact hP) hSz dX1_clear_5 rfl
/-! X1_append -/
set_option maxHeartbeats 4000000 in
set_option maxRecDepth 100000 in
theorem c_X1_append (l : Launch) (D : va_G) (cI cZ cJ : ClassId) {q0 q1 : Nat} {n0 : Nat} {x_length : Int} {a_bytes : (Int → Int)} {pz1 : Int} {y_x_length : Int} {y_a_bytes : (Int → Int)} {sz : Nat} (hn0 : n0 ≤ 2147483647) (hs : s_X1_append n0 x_length a_bytes pz1 = some (y_x_length, y_a_bytes)) : Met l yX1_append wsX1_append rm_X1_append (PW D vwCl [(cI, .int), (cZ, .boolean), (cJ, .long)] [.ref q0, .int (iI pz1)] [(q0, .inr (1, [.ref q1, .int (iI x_length)])), (q1, .inl (cI, n0, .inl (mI a_bytes)))] sz) (QW D vwCl none [(q0, .inr (1, [.ref q1, .int (iI y_x_length)])), (q1, .inl (cI, n0, .inl (mI y_a_bytes)))] (va_A [(q0, .inr (1, [.ref q1, .int (iI x_length)])), (q1, .inl (cI, n0, .inl (mI a_bytes)))] sz)) 0 0 (va_A [(q0, .inr (1, [.ref q1, .int (iI x_length)])), (q1, .inl (cI, n0, .inl (mI a_bytes)))] sz) := by
  refine Met.ofW (cc := cX1_append) (maxL := 2) (ret := none) (by decide) rfl ?_
  intro p e s m args below meth c s₁ B hml hv
  obtain ⟨hav, hsz, hP, hK, hD0⟩ := hv
  have hx := B.exec
  have hb := B.bytes
  have hr := B.returns
  have hts := atoms_spec (ws := wsX1_append) B.pre
  have hown : s.vm.findClass RX1 = some m.cls := findClass_of_methodNamed B.named
  have hlk := B.notSynchronized
  have hf21 : (Cond.fieldLink RX1 21 "KeywordMatcher$ByteRow" "length" "I").before args s = true := hts _ (List.mem_of_getElem? (i := 1) rfl)
  have hiX1 : ∀ w ∈ wsX10, w ∈ wsX1_append := fun w h => List.mem_cons_of_mem _ (List.mem_append_right _ h)
  have hf15 : (Cond.fieldLink RX1 15 "KeywordMatcher$ByteRow" "bytes" "[I").before args s = true := hts _ (List.mem_of_getElem? (i := 2) rfl)
  subst hsz
  have hD := hD0.self (sz := s.heap.size)
  generalize hAe : va_A [(q0, .inr (1, [.ref q1, .int (iI x_length)])), (q1, .inl (cI, n0, .inl (mI a_bytes)))] s.heap.size = Az at hD ⊢
  have hA : ∀ q : Nat, s.heap.size ≤ q → Az q := fun q h => by rw [← hAe]; exact Or.inr h
  clear hAe
  have hSz : va_S Az s.heap s.heap [] := va_S.rf
  obtain ⟨wz, hw1⟩ : ∃ z : va_W, z = [(q0, .inr (1, [.ref q1, .int (iI y_x_length)])), (q1, .inl (cI, n0, .inl (mI y_a_bytes)))] := ⟨_, rfl⟩
  rw [← hw1]
  have hl := lv_entry ([.ref q0, .int (iI pz1)]) (n := 2) (Nat.le_of_ble_eq_true rfl)
  rw [show entryFrame m args 2 = entryFrame m ([.ref q0, .int (iI pz1)] : List Value).toArray 2 from by rw [hav], lg_entry_eq]
  generalize (lg_sl ([.ref q0, .int (iI pz1)]) ++ List.replicate (2 - (lg_sl ([.ref q0, .int (iI pz1)])).length) Slot.unset).toArray = ls at hl ⊢
  have hl : lv_has ls 2 [(0, .ref q0), (1, .int (iI pz1))] := hl
  unfold s_X1_append at hs
  refine (?_ : ∀ (Hz : Heap) (lz : List Loc), va_P D vwCl [(q0, .inr (1, [.ref q1, .int (iI x_length)])), (q1, .inl (cI, n0, .inl (mI a_bytes)))] Hz → va_D Az [(q0, .inr (1, [.ref q1, .int (iI x_length)])), (q1, .inl (cI, n0, .inl (mI a_bytes)))] → va_S Az s.heap Hz lz → W p l e (headSpec wsX1_append rm_X1_append).room s m args below meth c Hz lz 0 0 (MQ below (QW D vwCl none wz Az) args s 0 0 Az) (F0 m 0 ls [])) s.heap [] hP hD hSz
  intro Hz lz hP hD hSz
  refine lv_aload_n hx hb dX1_append_0 rfl (lv_at hl 0 rfl) ?_
  refine va_get (ci := 1) (v := .int (iI x_length)) (C := RX1) (T := TX1) (N := 2) hx hb hts hiX1 hown hK hP 0 rfl rfl 1 (by decide) hf21 (fun _ h9 => h9) rfl dX1_append_1 ?_
  refine lv_aload_n hx hb dX1_append_4 rfl (lv_at hl 0 rfl) ?_
  refine va_get (ci := 1) (v := .ref q1) (C := RX1) (T := TX1) (N := 2) hx hb hts hiX1 hown hK hP 0 rfl rfl 0 (by decide) hf15 (fun _ h9 => h9) rfl dX1_append_5 ?_
  refine va_alen (v := iI ((n0 : Nat) : Int)) hx hb hK hP 1 0 rfl rfl (iI_nat _) dX1_append_8 ?_
  refine k_icmp_ge (tgt := 32) hx hb hs dX1_append_9 (by decide) (fun hs => ?_) (fun hs => ?_)
  · refine lv_aload_n hx hb dX1_append_12 rfl (lv_at hl 0 rfl) ?_
    refine va_get (ci := 1) (v := .ref q1) (C := RX1) (T := TX1) (N := 2) hx hb hts hiX1 hown hK hP 0 rfl rfl 0 (by decide) hf15 (fun _ h9 => h9) rfl dX1_append_13 ?_
    refine lv_aload_n hx hb dX1_append_16 rfl (lv_at hl 0 rfl) ?_
    refine va_get (ci := 1) (v := .int (iI x_length)) (C := RX1) (T := TX1) (N := 2) hx hb hts hiX1 hown hK hP 0 rfl rfl 1 (by decide) hf21 (fun _ h9 => h9) rfl dX1_append_17 ?_
    refine lv_iload_n hx hb dX1_append_20 rfl (lv_at hl 1 rfl) ?_
    refine k_iast hx hb hK hP hD hSz 1 0 rfl rfl hn0 hs dX1_append_21 (fun Hz lz hP hD hSz hs => ?_)
    have hP : va_P D vwCl [(q0, .inr (1, [.ref q1, .int (iI x_length)])), (q1, .inl (cI, n0, .inl (mI (upA a_bytes x_length pz1))))] Hz := hP
    have hD : va_D Az [(q0, .inr (1, [.ref q1, .int (iI x_length)])), (q1, .inl (cI, n0, .inl (mI (upA a_bytes x_length pz1))))] := hD
    refine lv_aload_n hx hb dX1_append_22 rfl (lv_at hl 0 rfl) ?_
    refine lv_dup hx hb dX1_append_23 rfl ?_
    refine va_get (ci := 1) (v := .int (iI x_length)) (C := RX1) (T := TX1) (N := 2) hx hb hts hiX1 hown hK hP 0 rfl rfl 1 (by decide) hf21 (fun _ h9 => h9) rfl dX1_append_24 ?_
    refine k_iconst (n := 1) hx hb dX1_append_27 ?_
    refine k_iadd hx hb dX1_append_28 ?_
    refine va_put (ci := 1) (v := .int (iI (x_length + 1))) (ty := .int) (C := RX1) (T := TX1) (N := 2) hx hb hts hiX1 tyX1 tyX1_ok nmX1 hown hK hP hD hSz 0 rfl rfl 1 (by decide) hf21 (fun _ h9 => h9) rfl (by decide +kernel) rfl rfl (Nat.le_of_ble_eq_true rfl) dX1_append_29 (fun Hz lz hP hD hSz => ?_)
    have hP : va_P D vwCl [(q0, .inr (1, [.ref q1, .int (iI (x_length + 1))])), (q1, .inl (cI, n0, .inl (mI (upA a_bytes x_length pz1))))] Hz := hP
    have hD : va_D Az [(q0, .inr (1, [.ref q1, .int (iI (x_length + 1))])), (q1, .inl (cI, n0, .inl (mI (upA a_bytes x_length pz1))))] := hD
    cases hs
    exact k_vret_w hx hb hr hlk (by rw [hw1]; exact hP) hSz dX1_append_32 rfl
  · cases hs
    exact k_vret_w hx hb hr hlk (by rw [hw1]; exact hP) hSz dX1_append_32 rfl
/-! X1_appendRun -/
set_option maxHeartbeats 4000000 in
set_option maxRecDepth 100000 in
theorem c_X1_appendRun (l : Launch) (D : va_G) (cI cZ cJ : ClassId) {q0 q1 q2 : Nat} {n0 m0 : Nat} {x_length : Int} {a_bytes : (Int → Int)} {a_arg0 : (Int → Int)} {pz2 : Int} {pz3 : Int} {y_x_length : Int} {y_a_bytes : (Int → Int)} {sz : Nat} (hn0 : n0 ≤ 2147483647) (hm0 : m0 ≤ 2147483647) (hs : s_X1_appendRun n0 m0 x_length a_bytes a_arg0 pz2 pz3 = some (y_x_length, y_a_bytes)) : Met l yX1_appendRun wsX1_appendRun rm_X1_appendRun (PW D vwCl [(cI, .int), (cZ, .boolean), (cJ, .long)] [.ref q0, .ref q2, .int (iI pz2), .int (iI pz3)] [(q0, .inr (1, [.ref q1, .int (iI x_length)])), (q1, .inl (cI, n0, .inl (mI a_bytes))), (q2, .inl (cI, m0, .inl (mI a_arg0)))] sz) (QW D vwCl none [(q0, .inr (1, [.ref q1, .int (iI y_x_length)])), (q1, .inl (cI, n0, .inl (mI y_a_bytes))), (q2, .inl (cI, m0, .inl (mI a_arg0)))] (va_A [(q0, .inr (1, [.ref q1, .int (iI x_length)])), (q1, .inl (cI, n0, .inl (mI a_bytes))), (q2, .inl (cI, m0, .inl (mI a_arg0)))] sz)) 0 0 (va_A [(q0, .inr (1, [.ref q1, .int (iI x_length)])), (q1, .inl (cI, n0, .inl (mI a_bytes))), (q2, .inl (cI, m0, .inl (mI a_arg0)))] sz) := by
  refine Met.ofW (cc := cX1_appendRun) (maxL := 4) (ret := none) (by decide) rfl ?_
  intro p e s m args below meth c s₁ B hml hv
  obtain ⟨hav, hsz, hP, hK, hD0⟩ := hv
  have hx := B.exec
  have hb := B.bytes
  have hr := B.returns
  have hts := atoms_spec (ws := wsX1_appendRun) B.pre
  have hown : s.vm.findClass RX1 = some m.cls := findClass_of_methodNamed B.named
  have hlk := B.notSynchronized
  have hf15 : (Cond.fieldLink RX1 15 "KeywordMatcher$ByteRow" "bytes" "[I").before args s = true := hts _ (List.mem_of_getElem? (i := 1) rfl)
  have hiX1 : ∀ w ∈ wsX10, w ∈ wsX1_appendRun := fun w h => List.mem_cons_of_mem _ (List.mem_append_right _ h)
  have hf21 : (Cond.fieldLink RX1 21 "KeywordMatcher$ByteRow" "length" "I").before args s = true := hts _ (List.mem_of_getElem? (i := 2) rfl)
  have hm25 : (Cond.methodLink RX1 25 arraycopyName).before args s = true := hts _ (List.mem_of_getElem? (i := 3) rfl)
  have hnat : (Cond.native arraycopyName).before args s = true := hts _ (List.mem_of_getElem? (i := 4) rfl)
  have hsta : (Cond.static arraycopyName).before args s = true := hts _ (List.mem_of_getElem? (i := 5) rfl)
  have hinS : (Cond.initialized "java/lang/System").before args s = true := hts _ (List.mem_of_getElem? (i := 6) rfl)
  subst hsz
  have hD := hD0.self (sz := s.heap.size)
  generalize hAe : va_A [(q0, .inr (1, [.ref q1, .int (iI x_length)])), (q1, .inl (cI, n0, .inl (mI a_bytes))), (q2, .inl (cI, m0, .inl (mI a_arg0)))] s.heap.size = Az at hD ⊢
  have hA : ∀ q : Nat, s.heap.size ≤ q → Az q := fun q h => by rw [← hAe]; exact Or.inr h
  clear hAe
  have hSz : va_S Az s.heap s.heap [] := va_S.rf
  obtain ⟨wz, hw1⟩ : ∃ z : va_W, z = [(q0, .inr (1, [.ref q1, .int (iI y_x_length)])), (q1, .inl (cI, n0, .inl (mI y_a_bytes))), (q2, .inl (cI, m0, .inl (mI a_arg0)))] := ⟨_, rfl⟩
  rw [← hw1]
  have hl := lv_entry ([.ref q0, .ref q2, .int (iI pz2), .int (iI pz3)]) (n := 4) (Nat.le_of_ble_eq_true rfl)
  rw [show entryFrame m args 4 = entryFrame m ([.ref q0, .ref q2, .int (iI pz2), .int (iI pz3)] : List Value).toArray 4 from by rw [hav], lg_entry_eq]
  generalize (lg_sl ([.ref q0, .ref q2, .int (iI pz2), .int (iI pz3)]) ++ List.replicate (4 - (lg_sl ([.ref q0, .ref q2, .int (iI pz2), .int (iI pz3)])).length) Slot.unset).toArray = ls at hl ⊢
  have hl : lv_has ls 4 [(0, .ref q0), (1, .ref q2), (2, .int (iI pz2)), (3, .int (iI pz3))] := hl
  unfold s_X1_appendRun at hs
  refine (?_ : ∀ (Hz : Heap) (lz : List Loc), va_P D vwCl [(q0, .inr (1, [.ref q1, .int (iI x_length)])), (q1, .inl (cI, n0, .inl (mI a_bytes))), (q2, .inl (cI, m0, .inl (mI a_arg0)))] Hz → va_D Az [(q0, .inr (1, [.ref q1, .int (iI x_length)])), (q1, .inl (cI, n0, .inl (mI a_bytes))), (q2, .inl (cI, m0, .inl (mI a_arg0)))] → va_S Az s.heap Hz lz → W p l e (headSpec wsX1_appendRun rm_X1_appendRun).room s m args below meth c Hz lz 0 0 (MQ below (QW D vwCl none wz Az) args s 0 0 Az) (F0 m 0 ls [])) s.heap [] hP hD hSz
  intro Hz lz hP hD hSz
  refine lv_iload_n hx hb dX1_appendRun_0 rfl (lv_at hl 2 rfl) ?_
  refine k_if_lt (tgt := 30) hx hb hs dX1_appendRun_1 (by decide) (fun hs => ?_) (fun hs => ?_)
  · cases hs
    exact k_vret_w hx hb hr hlk (by rw [hw1]; exact hP) hSz dX1_appendRun_30 rfl
  · refine lv_iload_n hx hb dX1_appendRun_4 rfl (lv_at hl 3 rfl) ?_
    refine k_if_lt (tgt := 30) hx hb hs dX1_appendRun_5 (by decide) (fun hs => ?_) (fun hs => ?_)
    · cases hs
      exact k_vret_w hx hb hr hlk (by rw [hw1]; exact hP) hSz dX1_appendRun_30 rfl
    · refine lv_iload_n hx hb dX1_appendRun_8 rfl (lv_at hl 3 rfl) ?_
      refine lv_aload_n hx hb dX1_appendRun_9 rfl (lv_at hl 1 rfl) ?_
      refine va_alen (v := iI ((m0 : Nat) : Int)) hx hb hK hP 2 0 rfl rfl (iI_nat _) dX1_appendRun_10 ?_
      refine lv_iload_n hx hb dX1_appendRun_11 rfl (lv_at hl 2 rfl) ?_
      refine k_isub hx hb dX1_appendRun_12 ?_
      refine k_icmp_gt (tgt := 30) hx hb hs dX1_appendRun_13 (by decide) (fun hs => ?_) (fun hs => ?_)
      · cases hs
        exact k_vret_w hx hb hr hlk (by rw [hw1]; exact hP) hSz dX1_appendRun_30 rfl
      · refine lv_iload_n hx hb dX1_appendRun_16 rfl (lv_at hl 3 rfl) ?_
        refine lv_aload_n hx hb dX1_appendRun_17 rfl (lv_at hl 0 rfl) ?_
        refine va_get (ci := 1) (v := .ref q1) (C := RX1) (T := TX1) (N := 2) hx hb hts hiX1 hown hK hP 0 rfl rfl 0 (by decide) hf15 (fun _ h9 => h9) rfl dX1_appendRun_18 ?_
        refine va_alen (v := iI ((n0 : Nat) : Int)) hx hb hK hP 1 0 rfl rfl (iI_nat _) dX1_appendRun_21 ?_
        refine lv_aload_n hx hb dX1_appendRun_22 rfl (lv_at hl 0 rfl) ?_
        refine va_get (ci := 1) (v := .int (iI x_length)) (C := RX1) (T := TX1) (N := 2) hx hb hts hiX1 hown hK hP 0 rfl rfl 1 (by decide) hf21 (fun _ h9 => h9) rfl dX1_appendRun_23 ?_
        refine k_isub hx hb dX1_appendRun_26 ?_
        refine k_icmp_le (tgt := 31) hx hb hs dX1_appendRun_27 (by decide) (fun hs => ?_) (fun hs => ?_)
        · cases hs
          exact k_vret_w hx hb hr hlk (by rw [hw1]; exact hP) hSz dX1_appendRun_30 rfl
        · refine lv_aload_n hx hb dX1_appendRun_31 rfl (lv_at hl 1 rfl) ?_
          refine lv_iload_n hx hb dX1_appendRun_32 rfl (lv_at hl 2 rfl) ?_
          refine lv_aload_n hx hb dX1_appendRun_33 rfl (lv_at hl 0 rfl) ?_
          refine va_get (ci := 1) (v := .ref q1) (C := RX1) (T := TX1) (N := 2) hx hb hts hiX1 hown hK hP 0 rfl rfl 0 (by decide) hf15 (fun _ h9 => h9) rfl dX1_appendRun_34 ?_
          refine lv_aload_n hx hb dX1_appendRun_37 rfl (lv_at hl 0 rfl) ?_
          refine va_get (ci := 1) (v := .int (iI x_length)) (C := RX1) (T := TX1) (N := 2) hx hb hts hiX1 hown hK hP 0 rfl rfl 1 (by decide) hf21 (fun _ h9 => h9) rfl dX1_appendRun_38 ?_
          refine lv_iload_n hx hb dX1_appendRun_41 rfl (lv_at hl 3 rfl) ?_
          refine k_copy hx hb (hml.trans hl.1.symm) hown hm25 hnat hsta hinS hK hP hD hSz 2 1 0 0 rfl rfl rfl rfl hm0 hn0 (Nat.le_of_ble_eq_true rfl) (by decide +kernel) hs dX1_appendRun_42 (fun Hz lz hP hD hSz hs => ?_)
          have hP : va_P D vwCl [(q0, .inr (1, [.ref q1, .int (iI x_length)])), (q1, .inl (cI, n0, .inl (mI (cpA a_arg0 a_bytes pz2 x_length pz3)))), (q2, .inl (cI, m0, .inl (mI a_arg0)))] Hz := hP
          have hD : va_D Az [(q0, .inr (1, [.ref q1, .int (iI x_length)])), (q1, .inl (cI, n0, .inl (mI (cpA a_arg0 a_bytes pz2 x_length pz3)))), (q2, .inl (cI, m0, .inl (mI a_arg0)))] := hD
          refine lv_aload_n hx hb dX1_appendRun_45 rfl (lv_at hl 0 rfl) ?_
          refine lv_dup hx hb dX1_appendRun_46 rfl ?_
          refine va_get (ci := 1) (v := .int (iI x_length)) (C := RX1) (T := TX1) (N := 2) hx hb hts hiX1 hown hK hP 0 rfl rfl 1 (by decide) hf21 (fun _ h9 => h9) rfl dX1_appendRun_47 ?_
          refine lv_iload_n hx hb dX1_appendRun_50 rfl (lv_at hl 3 rfl) ?_
          refine k_iadd hx hb dX1_appendRun_51 ?_
          refine va_put (ci := 1) (v := .int (iI (x_length + pz3))) (ty := .int) (C := RX1) (T := TX1) (N := 2) hx hb hts hiX1 tyX1 tyX1_ok nmX1 hown hK hP hD hSz 0 rfl rfl 1 (by decide) hf21 (fun _ h9 => h9) rfl (by decide +kernel) rfl rfl (Nat.le_of_ble_eq_true rfl) dX1_appendRun_52 (fun Hz lz hP hD hSz => ?_)
          have hP : va_P D vwCl [(q0, .inr (1, [.ref q1, .int (iI (x_length + pz3))])), (q1, .inl (cI, n0, .inl (mI (cpA a_arg0 a_bytes pz2 x_length pz3)))), (q2, .inl (cI, m0, .inl (mI a_arg0)))] Hz := hP
          have hD : va_D Az [(q0, .inr (1, [.ref q1, .int (iI (x_length + pz3))])), (q1, .inl (cI, n0, .inl (mI (cpA a_arg0 a_bytes pz2 x_length pz3)))), (q2, .inl (cI, m0, .inl (mI a_arg0)))] := hD
          cases hs
          exact k_vret_w hx hb hr hlk (by rw [hw1]; exact hP) hSz dX1_appendRun_55 rfl
/-! X1_at -/
set_option maxHeartbeats 4000000 in
set_option maxRecDepth 100000 in
theorem c_X1_at (l : Launch) (D : va_G) (cI cZ cJ : ClassId) {q0 q1 : Nat} {n0 : Nat} {x_length : Int} {a_bytes : (Int → Int)} {pz1 : Int} {r : Int} (hn0 : n0 ≤ 2147483647) (hs : s_X1_at n0 x_length a_bytes pz1 = some r) : Met l yX1_at wsX1_at rm_X1_at (PR D vwCl [(cI, .int), (cZ, .boolean), (cJ, .long)] [.ref q0, .int (iI pz1)] [(q0, .inr (1, [.ref q1, .int (iI x_length)])), (q1, .inl (cI, n0, .inl (mI a_bytes)))]) (QR (some (.int (iI r)))) 0 0 (fun _ => False) := by
  refine Met.ofW (cc := cX1_at) (maxL := 2) (ret := (some .int)) (by decide) rfl ?_
  intro p e s m args below meth c s₁ B hml hv
  obtain ⟨hav, hP, hK⟩ := hv
  have hx := B.exec
  have hb := B.bytes
  have hr := B.returns
  have hts := atoms_spec (ws := wsX1_at) B.pre
  have hown : s.vm.findClass RX1 = some m.cls := findClass_of_methodNamed B.named
  have hlk := B.notSynchronized
  have hf21 : (Cond.fieldLink RX1 21 "KeywordMatcher$ByteRow" "length" "I").before args s = true := hts _ (List.mem_of_getElem? (i := 1) rfl)
  have hiX1 : ∀ w ∈ wsX10, w ∈ wsX1_at := fun w h => List.mem_cons_of_mem _ (List.mem_append_right _ h)
  have hf15 : (Cond.fieldLink RX1 15 "KeywordMatcher$ByteRow" "bytes" "[I").before args s = true := hts _ (List.mem_of_getElem? (i := 2) rfl)
  have hl := lv_entry ([.ref q0, .int (iI pz1)]) (n := 2) (Nat.le_of_ble_eq_true rfl)
  rw [show entryFrame m args 2 = entryFrame m ([.ref q0, .int (iI pz1)] : List Value).toArray 2 from by rw [hav], lg_entry_eq]
  generalize (lg_sl ([.ref q0, .int (iI pz1)]) ++ List.replicate (2 - (lg_sl ([.ref q0, .int (iI pz1)])).length) Slot.unset).toArray = ls at hl ⊢
  have hl : lv_has ls 2 [(0, .ref q0), (1, .int (iI pz1))] := hl
  unfold s_X1_at at hs
  refine lv_iload_n hx hb dX1_at_0 rfl (lv_at hl 1 rfl) ?_
  refine k_if_lt (tgt := 21) hx hb hs dX1_at_1 (by decide) (fun hs => ?_) (fun hs => ?_)
  · refine k_iconst (n := (-1)) hx hb dX1_at_21 ?_
    cases hs
    exact k_iret_r hx hb hr hlk rfl dX1_at_22 rfl
  · refine lv_iload_n hx hb dX1_at_4 rfl (lv_at hl 1 rfl) ?_
    refine lv_aload_n hx hb dX1_at_5 rfl (lv_at hl 0 rfl) ?_
    refine va_get (ci := 1) (v := .int (iI x_length)) (C := RX1) (T := TX1) (N := 2) hx hb hts hiX1 hown hK hP 0 rfl rfl 1 (by decide) hf21 (fun _ h9 => h9) rfl dX1_at_6 ?_
    refine k_icmp_ge (tgt := 21) hx hb hs dX1_at_9 (by decide) (fun hs => ?_) (fun hs => ?_)
    · refine lv_aload_n hx hb dX1_at_12 rfl (lv_at hl 0 rfl) ?_
      refine va_get (ci := 1) (v := .ref q1) (C := RX1) (T := TX1) (N := 2) hx hb hts hiX1 hown hK hP 0 rfl rfl 0 (by decide) hf15 (fun _ h9 => h9) rfl dX1_at_13 ?_
      refine lv_iload_n hx hb dX1_at_16 rfl (lv_at hl 1 rfl) ?_
      refine k_iald hx hb hK hP 1 0 rfl rfl hn0 hs dX1_at_17 (fun vz1 hs => ?_)
      refine lv_goto (tgt := 22) hx hb dX1_at_18 (by decide) ?_
      cases hs
      exact k_iret_r hx hb hr hlk rfl dX1_at_22 rfl
    · refine k_iconst (n := (-1)) hx hb dX1_at_21 ?_
      cases hs
      exact k_iret_r hx hb hr hlk rfl dX1_at_22 rfl
/-! X2_fold -/
set_option maxHeartbeats 4000000 in
set_option maxRecDepth 100000 in
theorem c_X2_fold (l : Launch) (D : va_G) (cI cZ cJ : ClassId) {q0 : Nat} {x_on : Int} {pz1 : Int} {r : Int} (hs : s_X2_fold x_on pz1 = some r) : Met l yX2_fold wsX2_fold rm_X2_fold (PR D vwCl [(cI, .int), (cZ, .boolean), (cJ, .long)] [.ref q0, .int (iI pz1)] [(q0, .inr (2, [.int (iI x_on)]))]) (QR (some (.int (iI r)))) 0 0 (fun _ => False) := by
  refine Met.ofW (cc := cX2_fold) (maxL := 2) (ret := (some .int)) (by decide) rfl ?_
  intro p e s m args below meth c s₁ B hml hv
  obtain ⟨hav, hP, hK⟩ := hv
  have hx := B.exec
  have hb := B.bytes
  have hr := B.returns
  have hts := atoms_spec (ws := wsX2_fold) B.pre
  have hown : s.vm.findClass RX2 = some m.cls := findClass_of_methodNamed B.named
  have hlk := B.notSynchronized
  have hf7 : (Cond.fieldLink RX2 7 "KeywordMatcher$Folding" "on" "Z").before args s = true := hts _ (List.mem_of_getElem? (i := 1) rfl)
  have hiX2 : ∀ w ∈ wsX20, w ∈ wsX2_fold := fun w h => List.mem_cons_of_mem _ (List.mem_append_right _ h)
  have hl := lv_entry ([.ref q0, .int (iI pz1)]) (n := 2) (Nat.le_of_ble_eq_true rfl)
  rw [show entryFrame m args 2 = entryFrame m ([.ref q0, .int (iI pz1)] : List Value).toArray 2 from by rw [hav], lg_entry_eq]
  generalize (lg_sl ([.ref q0, .int (iI pz1)]) ++ List.replicate (2 - (lg_sl ([.ref q0, .int (iI pz1)])).length) Slot.unset).toArray = ls at hl ⊢
  have hl : lv_has ls 2 [(0, .ref q0), (1, .int (iI pz1))] := hl
  unfold s_X2_fold at hs
  refine lv_aload_n hx hb dX2_fold_0 rfl (lv_at hl 0 rfl) ?_
  refine va_get (ci := 2) (v := .int (iI x_on)) (C := RX2) (T := TX2) (N := 1) hx hb hts hiX2 hown hK hP 0 rfl rfl 0 (by decide) hf7 (fun _ h9 => h9) rfl dX2_fold_1 ?_
  refine k_if_eq (tgt := 29) hx hb hs dX2_fold_4 (by decide) (fun hs => ?_) (fun hs => ?_)
  · refine lv_iload_n hx hb dX2_fold_29 rfl (lv_at hl 1 rfl) ?_
    cases hs
    exact k_iret_r hx hb hr hlk rfl dX2_fold_30 rfl
  · refine lv_iload_n hx hb dX2_fold_7 rfl (lv_at hl 1 rfl) ?_
    refine k_bipush (n := 65) hx hb (by decide) dX2_fold_8 ?_
    refine k_icmp_lt (tgt := 29) hx hb hs dX2_fold_10 (by decide) (fun hs => ?_) (fun hs => ?_)
    · refine lv_iload_n hx hb dX2_fold_29 rfl (lv_at hl 1 rfl) ?_
      cases hs
      exact k_iret_r hx hb hr hlk rfl dX2_fold_30 rfl
    · refine lv_iload_n hx hb dX2_fold_13 rfl (lv_at hl 1 rfl) ?_
      refine k_bipush (n := 90) hx hb (by decide) dX2_fold_14 ?_
      refine k_icmp_gt (tgt := 29) hx hb hs dX2_fold_16 (by decide) (fun hs => ?_) (fun hs => ?_)
      · refine lv_iload_n hx hb dX2_fold_29 rfl (lv_at hl 1 rfl) ?_
        cases hs
        exact k_iret_r hx hb hr hlk rfl dX2_fold_30 rfl
      · refine lv_iload_n hx hb dX2_fold_19 rfl (lv_at hl 1 rfl) ?_
        refine k_bipush (n := 65) hx hb (by decide) dX2_fold_20 ?_
        refine k_isub hx hb dX2_fold_22 ?_
        refine k_bipush (n := 97) hx hb (by decide) dX2_fold_23 ?_
        refine k_iadd hx hb dX2_fold_25 ?_
        refine lv_goto (tgt := 30) hx hb dX2_fold_26 (by decide) ?_
        cases hs
        exact k_iret_r hx hb hr hlk rfl dX2_fold_30 rfl
/-! X2_commonPrefix -/
set_option maxHeartbeats 4000000 in
set_option maxRecDepth 100000 in
theorem c_X2_commonPrefix (l : Launch) (D : va_G) (cI cZ cJ : ClassId) {q0 q1 q2 : Nat} {m0 m2 : Nat} {x_on : Int} {a_arg0 : (Int → Int)} {a_arg2 : (Int → Int)} {pz2 : Int} {pz4 : Int} {pz5 : Int} {r : Int} (hm0 : m0 ≤ 2147483647) (hm2 : m2 ≤ 2147483647) (hs : s_X2_commonPrefix m0 m2 x_on a_arg0 a_arg2 pz2 pz4 pz5 = some r) : Met l yX2_commonPrefix wsX2_commonPrefix rm_X2_commonPrefix (PR D vwCl [(cI, .int), (cZ, .boolean), (cJ, .long)] [.ref q0, .ref q1, .int (iI pz2), .ref q2, .int (iI pz4), .int (iI pz5)] [(q0, .inr (2, [.int (iI x_on)])), (q1, .inl (cI, m0, .inl (mI a_arg0))), (q2, .inl (cI, m2, .inl (mI a_arg2)))]) (QR (some (.int (iI r)))) 0 0 (fun _ => False) := by
  refine Met.ofW (cc := cX2_commonPrefix) (maxL := 8) (ret := (some .int)) (by decide) rfl ?_
  intro p e s m args below meth c s₁ B hml hv
  obtain ⟨hav, hP, hK⟩ := hv
  have hx := B.exec
  have hb := B.bytes
  have hr := B.returns
  have hts := atoms_spec (ws := wsX2_commonPrefix) B.pre
  have hown : s.vm.findClass RX2 = some m.cls := findClass_of_methodNamed B.named
  have hlk := B.notSynchronized
  have hm13 : (Cond.methodLink RX2 13 Lib.Math.min.name).before args s = true := hts _ (List.mem_of_getElem? (i := 1) rfl)
  have hst_min : (Cond.static Lib.Math.min.name).before args s = true := hts _ (List.mem_of_getElem? (i := 2) rfl)
  have hin_Math : (Cond.initialized "java/lang/Math").before args s = true := hts _ (List.mem_of_getElem? (i := 3) rfl)
  have hcd_min : (Cond.code Lib.Math.min.name Lib.Math.min.code 2 (some .int)).before args s = true := hts _ (List.mem_of_getElem? (i := 4) rfl)
  have hm23 : (Cond.methodLink RX2 23 Lib.Math.max.name).before args s = true := hts _ (List.mem_of_getElem? (i := 5) rfl)
  have hst_max : (Cond.static Lib.Math.max.name).before args s = true := hts _ (List.mem_of_getElem? (i := 6) rfl)
  have hcd_max : (Cond.code Lib.Math.max.name Lib.Math.max.code 2 (some .int)).before args s = true := hts _ (List.mem_of_getElem? (i := 7) rfl)
  have hl := lv_entry ([.ref q0, .ref q1, .int (iI pz2), .ref q2, .int (iI pz4), .int (iI pz5)]) (n := 8) (Nat.le_of_ble_eq_true rfl)
  rw [show entryFrame m args 8 = entryFrame m ([.ref q0, .ref q1, .int (iI pz2), .ref q2, .int (iI pz4), .int (iI pz5)] : List Value).toArray 8 from by rw [hav], lg_entry_eq]
  generalize (lg_sl ([.ref q0, .ref q1, .int (iI pz2), .ref q2, .int (iI pz4), .int (iI pz5)]) ++ List.replicate (8 - (lg_sl ([.ref q0, .ref q1, .int (iI pz2), .ref q2, .int (iI pz4), .int (iI pz5)])).length) Slot.unset).toArray = ls at hl ⊢
  have hl : lv_has ls 8 [(0, .ref q0), (1, .ref q1), (2, .int (iI pz2)), (3, .ref q2), (4, .int (iI pz4)), (5, .int (iI pz5))] := hl
  unfold s_X2_commonPrefix at hs
  have Lz33 : ∀ (fu : Nat) (l2 : Int) (l4 : Int) (l6 : Int) (l7 : Int), s_X2_commonPrefix_33 m0 m2 fu x_on a_arg0 a_arg2 l2 l4 l6 l7 = some r → ∀ ls : Array Slot, lv_has ls 8 [(0, .ref q0), (1, .ref q1), (2, .int (iI l2)), (3, .ref q2), (4, .int (iI l4)), (6, .int (iI l6)), (7, .int (iI l7))] → W p l e (headSpec wsX2_commonPrefix rm_X2_commonPrefix).room s m args below meth c s.heap [] 0 0 (MQ below (QR (some (.int (iI r)))) args s 0 0 (fun _ => False)) (F0 m 33 ls []) := by
    intro fu
    induction fu with
    | zero => intro l2 l4 l6 l7 hs; cases hs
    | succ fu ih =>
      intro l2 l4 l6 l7 hs ls hl
      rw [s_X2_commonPrefix_33_s] at hs
      refine lv_iload hx hb dX2_commonPrefix_33 (lv_at hl 6 rfl) ?_
      refine lv_iload hx hb dX2_commonPrefix_35 (lv_at hl 5 rfl) ?_
      refine k_icmp_ge (tgt := 73) hx hb hs dX2_commonPrefix_37 (by decide) (fun hs => ?_) (fun hs => ?_)
      · refine lv_aload_n hx hb dX2_commonPrefix_40 rfl (lv_at hl 0 rfl) ?_
        refine lv_aload_n hx hb dX2_commonPrefix_41 rfl (lv_at hl 1 rfl) ?_
        refine lv_iload_n hx hb dX2_commonPrefix_42 rfl (lv_at hl 2 rfl) ?_
        refine lv_iload hx hb dX2_commonPrefix_43 (lv_at hl 6 rfl) ?_
        refine k_iadd hx hb dX2_commonPrefix_45 ?_
        refine k_iald hx hb hK hP 1 0 rfl rfl hm0 hs dX2_commonPrefix_46 (fun vz1 hs => ?_)
        obtain ⟨vz2, hcz, hs⟩ := bd1_some hs
        have hPc : va_P D vwCl [(q0, .inr (2, [.int (iI x_on)]))] s.heap := hP.sub [0] rfl
        refine k_rV (As := [.int (iI vz1)]) (rest := []) (st1 := [.int (iI vz2)]) ⟨hx, hb, hml, hown, hts⟩ hK hPc (c_X2_fold l D cI cZ cJ hcz) (cwV 1 hts gX2_commonPrefix_X2_fold rfl rfl rfl (by decide +kernel) ⟨Nat.le_of_ble_eq_true rfl, Nat.le_of_ble_eq_true rfl⟩) 0 rfl rfl rfl rfl hl.1 rfl (lv_room (Nat.le_of_ble_eq_true rfl)) dX2_commonPrefix_47 ⟨Nat.zero_le _, Nat.zero_le _⟩ rfl ?_
        refine lv_aload_n hx hb dX2_commonPrefix_50 rfl (lv_at hl 0 rfl) ?_
        refine lv_aload_n hx hb dX2_commonPrefix_51 rfl (lv_at hl 3 rfl) ?_
        refine lv_iload hx hb dX2_commonPrefix_52 (lv_at hl 4 rfl) ?_
        refine lv_iload hx hb dX2_commonPrefix_54 (lv_at hl 6 rfl) ?_
        refine k_iadd hx hb dX2_commonPrefix_56 ?_
        refine k_iald hx hb hK hP 2 0 rfl rfl hm2 hs dX2_commonPrefix_57 (fun vz3 hs => ?_)
        obtain ⟨vz4, hcz, hs⟩ := bd1_some hs
        have hPc : va_P D vwCl [(q0, .inr (2, [.int (iI x_on)]))] s.heap := hP.sub [0] rfl
        refine k_rV (As := [.int (iI vz3)]) (rest := [.int (iI vz2)]) (st1 := [.int (iI vz4), .int (iI vz2)]) ⟨hx, hb, hml, hown, hts⟩ hK hPc (c_X2_fold l D cI cZ cJ hcz) (cwV 1 hts gX2_commonPrefix_X2_fold rfl rfl rfl (by decide +kernel) ⟨Nat.le_of_ble_eq_true rfl, Nat.le_of_ble_eq_true rfl⟩) 0 rfl rfl rfl rfl hl.1 rfl (lv_room (Nat.le_of_ble_eq_true rfl)) dX2_commonPrefix_58 ⟨Nat.zero_le _, Nat.zero_le _⟩ rfl ?_
        refine k_icmp_eq (tgt := 67) hx hb hs dX2_commonPrefix_61 (by decide) (fun hs => ?_) (fun hs => ?_)
        · refine k_iinc (x := l7) (k := 6) (lv' := [(7, .int (iI (l7 + 1))), (0, .ref q0), (1, .ref q1), (2, .int (iI l2)), (3, .ref q2), (4, .int (iI l4)), (6, .int (iI l6))]) hx hb dX2_commonPrefix_67 hl rfl (by decide) rfl (fun ls hl => ?_)
          refine lv_goto (tgt := 33) hx hb dX2_commonPrefix_70 (by decide) ?_
          exact ih l2 l4 l6 (l7 + 1)  hs ls (lv_sub hl [1, 2, 3, 4, 5, 6, 0] rfl)
        · refine lv_iload hx hb dX2_commonPrefix_64 (lv_at hl 6 rfl) ?_
          cases hs
          exact k_iret_r hx hb hr hlk rfl dX2_commonPrefix_66 rfl
      · refine lv_iload hx hb dX2_commonPrefix_73 (lv_at hl 5 rfl) ?_
        refine k_iconst (n := 0) hx hb dX2_commonPrefix_75 ?_
        refine k_mmax hx hb (hml.trans hl.1.symm) hown hm23 hst_max hin_Math hcd_max (Nat.le_of_ble_eq_true rfl) (Nat.le_of_ble_eq_true rfl) (Nat.zero_le _) (Nat.zero_le _) hs dX2_commonPrefix_76 (fun hs => ?_)
        cases hs
        exact k_iret_r hx hb hr hlk rfl dX2_commonPrefix_79 rfl
  refine lv_iload_n hx hb dX2_commonPrefix_0 rfl (lv_at hl 2 rfl) ?_
  refine k_if_lt (tgt := 9) hx hb hs dX2_commonPrefix_1 (by decide) (fun hs => ?_) (fun hs => ?_)
  · refine k_iconst (n := 0) hx hb dX2_commonPrefix_9 ?_
    cases hs
    exact k_iret_r hx hb hr hlk rfl dX2_commonPrefix_10 rfl
  · refine lv_iload hx hb dX2_commonPrefix_4 (lv_at hl 4 rfl) ?_
    refine k_if_ge (tgt := 11) hx hb hs dX2_commonPrefix_6 (by decide) (fun hs => ?_) (fun hs => ?_)
    · refine k_iconst (n := 0) hx hb dX2_commonPrefix_9 ?_
      cases hs
      exact k_iret_r hx hb hr hlk rfl dX2_commonPrefix_10 rfl
    · refine lv_iload hx hb dX2_commonPrefix_11 (lv_at hl 5 rfl) ?_
      refine lv_aload_n hx hb dX2_commonPrefix_13 rfl (lv_at hl 1 rfl) ?_
      refine va_alen (v := iI ((m0 : Nat) : Int)) hx hb hK hP 1 0 rfl rfl (iI_nat _) dX2_commonPrefix_14 ?_
      refine lv_iload_n hx hb dX2_commonPrefix_15 rfl (lv_at hl 2 rfl) ?_
      refine k_isub hx hb dX2_commonPrefix_16 ?_
      refine lv_aload_n hx hb dX2_commonPrefix_17 rfl (lv_at hl 3 rfl) ?_
      refine va_alen (v := iI ((m2 : Nat) : Int)) hx hb hK hP 2 0 rfl rfl (iI_nat _) dX2_commonPrefix_18 ?_
      refine lv_iload hx hb dX2_commonPrefix_19 (lv_at hl 4 rfl) ?_
      refine k_isub hx hb dX2_commonPrefix_21 ?_
      refine k_mmin hx hb (hml.trans hl.1.symm) hown hm13 hst_min hin_Math hcd_min (Nat.le_of_ble_eq_true rfl) (Nat.le_of_ble_eq_true rfl) (Nat.zero_le _) (Nat.zero_le _) hs dX2_commonPrefix_22 (fun hs => ?_)
      refine k_mmin hx hb (hml.trans hl.1.symm) hown hm13 hst_min hin_Math hcd_min (Nat.le_of_ble_eq_true rfl) (Nat.le_of_ble_eq_true rfl) (Nat.zero_le _) (Nat.zero_le _) hs dX2_commonPrefix_25 (fun hs => ?_)
      refine lv_istore (lv' := [(6, .int (iI (iMin pz5 (iMin (((m0 : Nat) : Int) - pz2) (((m2 : Nat) : Int) - pz4))))), (0, .ref q0), (1, .ref q1), (2, .int (iI pz2)), (3, .ref q2), (4, .int (iI pz4)), (5, .int (iI pz5))]) hx hb dX2_commonPrefix_28 hl (by decide) rfl (fun ls hl => ?_)
      refine k_iconst (n := 0) hx hb dX2_commonPrefix_30 ?_
      refine lv_istore (lv' := [(7, .int (iI 0)), (6, .int (iI (iMin pz5 (iMin (((m0 : Nat) : Int) - pz2) (((m2 : Nat) : Int) - pz4))))), (0, .ref q0), (1, .ref q1), (2, .int (iI pz2)), (3, .ref q2), (4, .int (iI pz4)), (5, .int (iI pz5))]) hx hb dX2_commonPrefix_31 hl (by decide) rfl (fun ls hl => ?_)
      exact Lz33 FU pz2 pz4 (iMin pz5 (iMin (((m0 : Nat) : Int) - pz2) (((m2 : Nat) : Int) - pz4))) 0 hs ls (lv_sub hl [2, 3, 4, 5, 6, 1, 0] rfl)
/-! X2_same -/
set_option maxHeartbeats 4000000 in
set_option maxRecDepth 100000 in
theorem c_X2_same (l : Launch) (D : va_G) (cI cZ cJ : ClassId) {q0 q1 q2 : Nat} {m0 m2 : Nat} {x_on : Int} {a_arg0 : (Int → Int)} {a_arg2 : (Int → Int)} {pz2 : Int} {pz4 : Int} {pz5 : Int} {r : Int} (hm0 : m0 ≤ 2147483647) (hm2 : m2 ≤ 2147483647) (hs : s_X2_same m0 m2 x_on a_arg0 a_arg2 pz2 pz4 pz5 = some r) : Met l yX2_same wsX2_same rm_X2_same (PR D vwCl [(cI, .int), (cZ, .boolean), (cJ, .long)] [.ref q0, .ref q1, .int (iI pz2), .ref q2, .int (iI pz4), .int (iI pz5)] [(q0, .inr (2, [.int (iI x_on)])), (q1, .inl (cI, m0, .inl (mI a_arg0))), (q2, .inl (cI, m2, .inl (mI a_arg2)))]) (QR (some (.int (iI r)))) 0 0 (fun _ => False) := by
  refine Met.ofW (cc := cX2_same) (maxL := 6) (ret := (some .boolean)) (by decide) rfl ?_
  intro p e s m args below meth c s₁ B hml hv
  obtain ⟨hav, hP, hK⟩ := hv
  have hx := B.exec
  have hb := B.bytes
  have hr := B.returns
  have hts := atoms_spec (ws := wsX2_same) B.pre
  have hown : s.vm.findClass RX2 = some m.cls := findClass_of_methodNamed B.named
  have hlk := B.notSynchronized
  have hl := lv_entry ([.ref q0, .ref q1, .int (iI pz2), .ref q2, .int (iI pz4), .int (iI pz5)]) (n := 6) (Nat.le_of_ble_eq_true rfl)
  rw [show entryFrame m args 6 = entryFrame m ([.ref q0, .ref q1, .int (iI pz2), .ref q2, .int (iI pz4), .int (iI pz5)] : List Value).toArray 6 from by rw [hav], lg_entry_eq]
  generalize (lg_sl ([.ref q0, .ref q1, .int (iI pz2), .ref q2, .int (iI pz4), .int (iI pz5)]) ++ List.replicate (6 - (lg_sl ([.ref q0, .ref q1, .int (iI pz2), .ref q2, .int (iI pz4), .int (iI pz5)])).length) Slot.unset).toArray = ls at hl ⊢
  have hl : lv_has ls 6 [(0, .ref q0), (1, .ref q1), (2, .int (iI pz2)), (3, .ref q2), (4, .int (iI pz4)), (5, .int (iI pz5))] := hl
  unfold s_X2_same at hs
  refine lv_aload_n hx hb dX2_same_0 rfl (lv_at hl 0 rfl) ?_
  refine lv_aload_n hx hb dX2_same_1 rfl (lv_at hl 1 rfl) ?_
  refine lv_iload_n hx hb dX2_same_2 rfl (lv_at hl 2 rfl) ?_
  refine lv_aload_n hx hb dX2_same_3 rfl (lv_at hl 3 rfl) ?_
  refine lv_iload hx hb dX2_same_4 (lv_at hl 4 rfl) ?_
  refine lv_iload hx hb dX2_same_6 (lv_at hl 5 rfl) ?_
  obtain ⟨vz1, hcz, hs⟩ := bd1_some hs
  have hPc : va_P D vwCl [(q0, .inr (2, [.int (iI x_on)])), (q1, .inl (cI, m0, .inl (mI a_arg0))), (q2, .inl (cI, m2, .inl (mI a_arg2)))] s.heap := hP.sub [0, 1, 2] rfl
  refine k_rV (As := [.ref q1, .int (iI pz2), .ref q2, .int (iI pz4), .int (iI pz5)]) (rest := []) (st1 := [.int (iI vz1)]) ⟨hx, hb, hml, hown, hts⟩ hK hPc (c_X2_commonPrefix l D cI cZ cJ hm0 hm2 hcz) (cwV 5 hts gX2_same_X2_commonPrefix rfl rfl rfl (by decide +kernel) ⟨Nat.le_of_ble_eq_true rfl, Nat.le_of_ble_eq_true rfl⟩) 0 rfl rfl rfl rfl hl.1 rfl (lv_room (Nat.le_of_ble_eq_true rfl)) dX2_same_8 ⟨Nat.zero_le _, Nat.zero_le _⟩ rfl ?_
  refine lv_iload hx hb dX2_same_11 (lv_at hl 5 rfl) ?_
  refine k_icmp_ne (tgt := 20) hx hb hs dX2_same_13 (by decide) (fun hs => ?_) (fun hs => ?_)
  · refine k_iconst (n := 1) hx hb dX2_same_16 ?_
    refine lv_goto (tgt := 21) hx hb dX2_same_17 (by decide) ?_
    cases hs
    exact k_zret_r hx hb hr hlk rfl (by decide) dX2_same_21 rfl
  · refine k_iconst (n := 0) hx hb dX2_same_20 ?_
    cases hs
    exact k_zret_r hx hb hr hlk rfl (by decide) dX2_same_21 rfl
/-! X2_overlap -/
set_option maxHeartbeats 4000000 in
set_option maxRecDepth 100000 in
theorem c_X2_overlap (l : Launch) (D : va_G) (cI cZ cJ : ClassId) {q0 q1 q2 : Nat} {m0 m2 : Nat} {x_on : Int} {a_arg0 : (Int → Int)} {a_arg2 : (Int → Int)} {pz2 : Int} {pz4 : Int} {pz5 : Int} {r : Int} (hm0 : m0 ≤ 2147483647) (hm2 : m2 ≤ 2147483647) (hs : s_X2_overlap m0 m2 x_on a_arg0 a_arg2 pz2 pz4 pz5 = some r) : Met l yX2_overlap wsX2_overlap rm_X2_overlap (PR D vwCl [(cI, .int), (cZ, .boolean), (cJ, .long)] [.ref q0, .ref q1, .int (iI pz2), .ref q2, .int (iI pz4), .int (iI pz5)] [(q0, .inr (2, [.int (iI x_on)])), (q1, .inl (cI, m0, .inl (mI a_arg0))), (q2, .inl (cI, m2, .inl (mI a_arg2)))]) (QR (some (.int (iI r)))) 0 0 (fun _ => False) := by
  refine Met.ofW (cc := cX2_overlap) (maxL := 7) (ret := (some .int)) (by decide) rfl ?_
  intro p e s m args below meth c s₁ B hml hv
  obtain ⟨hav, hP, hK⟩ := hv
  have hx := B.exec
  have hb := B.bytes
  have hr := B.returns
  have hts := atoms_spec (ws := wsX2_overlap) B.pre
  have hown : s.vm.findClass RX2 = some m.cls := findClass_of_methodNamed B.named
  have hlk := B.notSynchronized
  have hl := lv_entry ([.ref q0, .ref q1, .int (iI pz2), .ref q2, .int (iI pz4), .int (iI pz5)]) (n := 7) (Nat.le_of_ble_eq_true rfl)
  rw [show entryFrame m args 7 = entryFrame m ([.ref q0, .ref q1, .int (iI pz2), .ref q2, .int (iI pz4), .int (iI pz5)] : List Value).toArray 7 from by rw [hav], lg_entry_eq]
  generalize (lg_sl ([.ref q0, .ref q1, .int (iI pz2), .ref q2, .int (iI pz4), .int (iI pz5)]) ++ List.replicate (7 - (lg_sl ([.ref q0, .ref q1, .int (iI pz2), .ref q2, .int (iI pz4), .int (iI pz5)])).length) Slot.unset).toArray = ls at hl ⊢
  have hl : lv_has ls 7 [(0, .ref q0), (1, .ref q1), (2, .int (iI pz2)), (3, .ref q2), (4, .int (iI pz4)), (5, .int (iI pz5))] := hl
  unfold s_X2_overlap at hs
  have Lz4 : ∀ (fu : Nat) (l2 : Int) (l4 : Int) (l6 : Int), s_X2_overlap_4 m0 m2 fu x_on a_arg0 a_arg2 l2 l4 l6 = some r → ∀ ls : Array Slot, lv_has ls 7 [(0, .ref q0), (1, .ref q1), (2, .int (iI l2)), (3, .ref q2), (4, .int (iI l4)), (6, .int (iI l6))] → W p l e (headSpec wsX2_overlap rm_X2_overlap).room s m args below meth c s.heap [] 0 0 (MQ below (QR (some (.int (iI r)))) args s 0 0 (fun _ => False)) (F0 m 4 ls []) := by
    intro fu
    induction fu with
    | zero => intro l2 l4 l6 hs; cases hs
    | succ fu ih =>
      intro l2 l4 l6 hs ls hl
      rw [s_X2_overlap_4_s] at hs
      refine lv_iload hx hb dX2_overlap_4 (lv_at hl 5 rfl) ?_
      refine k_if_le (tgt := 37) hx hb hs dX2_overlap_6 (by decide) (fun hs => ?_) (fun hs => ?_)
      · refine lv_aload_n hx hb dX2_overlap_9 rfl (lv_at hl 0 rfl) ?_
        refine lv_aload_n hx hb dX2_overlap_10 rfl (lv_at hl 1 rfl) ?_
        refine lv_iload_n hx hb dX2_overlap_11 rfl (lv_at hl 2 rfl) ?_
        refine lv_iload hx hb dX2_overlap_12 (lv_at hl 5 rfl) ?_
        refine k_isub hx hb dX2_overlap_14 ?_
        refine lv_aload_n hx hb dX2_overlap_15 rfl (lv_at hl 3 rfl) ?_
        refine lv_iload hx hb dX2_overlap_16 (lv_at hl 4 rfl) ?_
        refine lv_iload hx hb dX2_overlap_18 (lv_at hl 5 rfl) ?_
        obtain ⟨vz1, hcz, hs⟩ := bd1_some hs
        have hPc : va_P D vwCl [(q0, .inr (2, [.int (iI x_on)])), (q1, .inl (cI, m0, .inl (mI a_arg0))), (q2, .inl (cI, m2, .inl (mI a_arg2)))] s.heap := hP.sub [0, 1, 2] rfl
        refine k_rV (As := [.ref q1, .int (iI (l2 - l6)), .ref q2, .int (iI l4), .int (iI l6)]) (rest := []) (st1 := [.int (iI vz1)]) ⟨hx, hb, hml, hown, hts⟩ hK hPc (c_X2_commonPrefix l D cI cZ cJ hm0 hm2 hcz) (cwV 5 hts gX2_overlap_X2_commonPrefix rfl rfl rfl (by decide +kernel) ⟨Nat.le_of_ble_eq_true rfl, Nat.le_of_ble_eq_true rfl⟩) 0 rfl rfl rfl rfl hl.1 rfl (lv_room (Nat.le_of_ble_eq_true rfl)) dX2_overlap_20 ⟨Nat.zero_le _, Nat.zero_le _⟩ rfl ?_
        refine lv_iload hx hb dX2_overlap_23 (lv_at hl 5 rfl) ?_
        refine k_icmp_ne (tgt := 31) hx hb hs dX2_overlap_25 (by decide) (fun hs => ?_) (fun hs => ?_)
        · refine lv_iload hx hb dX2_overlap_28 (lv_at hl 5 rfl) ?_
          cases hs
          exact k_iret_r hx hb hr hlk rfl dX2_overlap_30 rfl
        · refine k_iinc (x := l6) (k := 5) (lv' := [(6, .int (iI (l6 + (-1)))), (0, .ref q0), (1, .ref q1), (2, .int (iI l2)), (3, .ref q2), (4, .int (iI l4))]) hx hb dX2_overlap_31 hl rfl (by decide) rfl (fun ls hl => ?_)
          refine lv_goto (tgt := 4) hx hb dX2_overlap_34 (by decide) ?_
          exact ih l2 l4 (l6 + (-1))  hs ls (lv_sub hl [1, 2, 3, 4, 5, 0] rfl)
      · refine k_iconst (n := 0) hx hb dX2_overlap_37 ?_
        cases hs
        exact k_iret_r hx hb hr hlk rfl dX2_overlap_38 rfl
  refine lv_iload hx hb dX2_overlap_0 (lv_at hl 5 rfl) ?_
  refine lv_istore (lv' := [(6, .int (iI pz5)), (0, .ref q0), (1, .ref q1), (2, .int (iI pz2)), (3, .ref q2), (4, .int (iI pz4)), (5, .int (iI pz5))]) hx hb dX2_overlap_2 hl (by decide) rfl (fun ls hl => ?_)
  exact Lz4 FU pz2 pz4 pz5 hs ls (lv_sub hl [1, 2, 3, 4, 5, 0] rfl)
/-! X3_firstByteOf -/
set_option maxHeartbeats 4000000 in
set_option maxRecDepth 100000 in
theorem c_X3_firstByteOf (l : Launch) (D : va_G) (cI cZ cJ : ClassId) {q0 q1 q2 q3 q4 q5 : Nat} {x_given : Int} {x_alive : Int} {x_folding_on : Int} {a_bytes : (Int → Int)} {a_lengths : (Int → Int)} {a_weights : (Int → Int)} {a_lives : (Int → Int)} {pz1 : Int} {r : Int} (hs : s_X3_firstByteOf pz1 = some r) : Met l yX3_firstByteOf wsX3_firstByteOf rm_X3_firstByteOf (PR D vwCl [(cI, .int), (cZ, .boolean), (cJ, .long)] [.ref q0, .int (iI pz1)] [(q0, .inr (3, [.ref q1, .ref q2, .ref q3, .ref q4, .ref q5, .int (iI x_given), .int (iI x_alive)])), (q1, .inr (2, [.int (iI x_folding_on)])), (q2, .inl (cI, 1920, .inl (mI a_bytes))), (q3, .inl (cI, 120, .inl (mI a_lengths))), (q4, .inl (cI, 120, .inl (mI a_weights))), (q5, .inl (cZ, 120, .inl (mI a_lives)))]) (QR (some (.int (iI r)))) 0 0 (fun _ => False) := by
  refine Met.ofW (cc := cX3_firstByteOf) (maxL := 2) (ret := (some .int)) (by decide) rfl ?_
  intro p e s m args below meth c s₁ B hml hv
  obtain ⟨hav, hP, hK⟩ := hv
  have hx := B.exec
  have hb := B.bytes
  have hr := B.returns
  have hts := atoms_spec (ws := wsX3_firstByteOf) B.pre
  have hown : s.vm.findClass RX3 = some m.cls := findClass_of_methodNamed B.named
  have hlk := B.notSynchronized
  have hl := lv_entry ([.ref q0, .int (iI pz1)]) (n := 2) (Nat.le_of_ble_eq_true rfl)
  rw [show entryFrame m args 2 = entryFrame m ([.ref q0, .int (iI pz1)] : List Value).toArray 2 from by rw [hav], lg_entry_eq]
  generalize (lg_sl ([.ref q0, .int (iI pz1)]) ++ List.replicate (2 - (lg_sl ([.ref q0, .int (iI pz1)])).length) Slot.unset).toArray = ls at hl ⊢
  have hl : lv_has ls 2 [(0, .ref q0), (1, .int (iI pz1))] := hl
  unfold s_X3_firstByteOf at hs
  refine lv_iload_n hx hb dX3_firstByteOf_0 rfl (lv_at hl 1 rfl) ?_
  refine k_bipush (n := 16) hx hb (by decide) dX3_firstByteOf_1 ?_
  refine k_imul hx hb dX3_firstByteOf_3 ?_
  cases hs
  exact k_iret_r hx hb hr hlk rfl dX3_firstByteOf_4 rfl
/-! X3_give -/
set_option maxHeartbeats 4000000 in
set_option maxRecDepth 100000 in
theorem c_X3_give (l : Launch) (D : va_G) (cI cZ cJ : ClassId) {q0 q1 q2 q3 q4 q5 q6 q7 : Nat} {m0 : Nat} {x_given : Int} {x_alive : Int} {x_folding_on : Int} {a_bytes : (Int → Int)} {a_lengths : (Int → Int)} {a_weights : (Int → Int)} {a_lives : (Int → Int)} {x_arg0_length : Int} {a_arg0_bytes : (Int → Int)} {pz2 : Int} {pz3 : Int} {r : Int} {y_x_given : Int} {y_x_alive : Int} {y_a_bytes : (Int → Int)} {y_a_lengths : (Int → Int)} {y_a_weights : (Int → Int)} {y_a_lives : (Int → Int)} {sz : Nat} (hm0 : m0 ≤ 2147483647) (hs : s_X3_give m0 x_given x_alive a_bytes a_lengths a_weights a_lives x_arg0_length a_arg0_bytes pz2 pz3 = some (r, y_x_given, y_x_alive, y_a_bytes, y_a_lengths, y_a_weights, y_a_lives)) : Met l yX3_give wsX3_give rm_X3_give (PW D vwCl [(cI, .int), (cZ, .boolean), (cJ, .long)] [.ref q0, .ref q6, .int (iI pz2), .int (iI pz3)] [(q0, .inr (3, [.ref q1, .ref q2, .ref q3, .ref q4, .ref q5, .int (iI x_given), .int (iI x_alive)])), (q1, .inr (2, [.int (iI x_folding_on)])), (q2, .inl (cI, 1920, .inl (mI a_bytes))), (q3, .inl (cI, 120, .inl (mI a_lengths))), (q4, .inl (cI, 120, .inl (mI a_weights))), (q5, .inl (cZ, 120, .inl (mI a_lives))), (q6, .inr (1, [.ref q7, .int (iI x_arg0_length)])), (q7, .inl (cI, m0, .inl (mI a_arg0_bytes)))] sz) (QW D vwCl (some (.int (iI r))) [(q0, .inr (3, [.ref q1, .ref q2, .ref q3, .ref q4, .ref q5, .int (iI y_x_given), .int (iI y_x_alive)])), (q1, .inr (2, [.int (iI x_folding_on)])), (q2, .inl (cI, 1920, .inl (mI y_a_bytes))), (q3, .inl (cI, 120, .inl (mI y_a_lengths))), (q4, .inl (cI, 120, .inl (mI y_a_weights))), (q5, .inl (cZ, 120, .inl (mI y_a_lives))), (q6, .inr (1, [.ref q7, .int (iI x_arg0_length)])), (q7, .inl (cI, m0, .inl (mI a_arg0_bytes)))] (va_A [(q0, .inr (3, [.ref q1, .ref q2, .ref q3, .ref q4, .ref q5, .int (iI x_given), .int (iI x_alive)])), (q1, .inr (2, [.int (iI x_folding_on)])), (q2, .inl (cI, 1920, .inl (mI a_bytes))), (q3, .inl (cI, 120, .inl (mI a_lengths))), (q4, .inl (cI, 120, .inl (mI a_weights))), (q5, .inl (cZ, 120, .inl (mI a_lives))), (q6, .inr (1, [.ref q7, .int (iI x_arg0_length)])), (q7, .inl (cI, m0, .inl (mI a_arg0_bytes)))] sz)) 0 0 (va_A [(q0, .inr (3, [.ref q1, .ref q2, .ref q3, .ref q4, .ref q5, .int (iI x_given), .int (iI x_alive)])), (q1, .inr (2, [.int (iI x_folding_on)])), (q2, .inl (cI, 1920, .inl (mI a_bytes))), (q3, .inl (cI, 120, .inl (mI a_lengths))), (q4, .inl (cI, 120, .inl (mI a_weights))), (q5, .inl (cZ, 120, .inl (mI a_lives))), (q6, .inr (1, [.ref q7, .int (iI x_arg0_length)])), (q7, .inl (cI, m0, .inl (mI a_arg0_bytes)))] sz) := by
  refine Met.ofW (cc := cX3_give) (maxL := 6) (ret := (some .int)) (by decide) rfl ?_
  intro p e s m args below meth c s₁ B hml hv
  obtain ⟨hav, hsz, hP, hK, hD0⟩ := hv
  have hx := B.exec
  have hb := B.bytes
  have hr := B.returns
  have hts := atoms_spec (ws := wsX3_give) B.pre
  have hown : s.vm.findClass RX3 = some m.cls := findClass_of_methodNamed B.named
  have hlk := B.notSynchronized
  have hf29 : (Cond.fieldLink RX3 29 "KeywordMatcher$Keywords" "given" "I").before args s = true := hts _ (List.mem_of_getElem? (i := 1) rfl)
  have hiX3 : ∀ w ∈ wsX30, w ∈ wsX3_give := fun w h => List.mem_cons_of_mem _ (List.mem_append_left _ (List.mem_append_right _ h))
  have hf15 : (Cond.fieldLink RX3 15 "KeywordMatcher$Keywords" "bytes" "[I").before args s = true := hts _ (List.mem_of_getElem? (i := 2) rfl)
  have hf19 : (Cond.fieldLink RX3 19 "KeywordMatcher$Keywords" "lengths" "[I").before args s = true := hts _ (List.mem_of_getElem? (i := 3) rfl)
  have hf22 : (Cond.fieldLink RX3 22 "KeywordMatcher$Keywords" "weights" "[I").before args s = true := hts _ (List.mem_of_getElem? (i := 4) rfl)
  have hf25 : (Cond.fieldLink RX3 25 "KeywordMatcher$Keywords" "lives" "[Z").before args s = true := hts _ (List.mem_of_getElem? (i := 5) rfl)
  have hf33 : (Cond.fieldLink RX3 33 "KeywordMatcher$Keywords" "alive" "I").before args s = true := hts _ (List.mem_of_getElem? (i := 6) rfl)
  subst hsz
  have hD := hD0.self (sz := s.heap.size)
  generalize hAe : va_A [(q0, .inr (3, [.ref q1, .ref q2, .ref q3, .ref q4, .ref q5, .int (iI x_given), .int (iI x_alive)])), (q1, .inr (2, [.int (iI x_folding_on)])), (q2, .inl (cI, 1920, .inl (mI a_bytes))), (q3, .inl (cI, 120, .inl (mI a_lengths))), (q4, .inl (cI, 120, .inl (mI a_weights))), (q5, .inl (cZ, 120, .inl (mI a_lives))), (q6, .inr (1, [.ref q7, .int (iI x_arg0_length)])), (q7, .inl (cI, m0, .inl (mI a_arg0_bytes)))] s.heap.size = Az at hD ⊢
  have hA : ∀ q : Nat, s.heap.size ≤ q → Az q := fun q h => by rw [← hAe]; exact Or.inr h
  clear hAe
  have hSz : va_S Az s.heap s.heap [] := va_S.rf
  obtain ⟨wz, hw1⟩ : ∃ z : va_W, z = [(q0, .inr (3, [.ref q1, .ref q2, .ref q3, .ref q4, .ref q5, .int (iI y_x_given), .int (iI y_x_alive)])), (q1, .inr (2, [.int (iI x_folding_on)])), (q2, .inl (cI, 1920, .inl (mI y_a_bytes))), (q3, .inl (cI, 120, .inl (mI y_a_lengths))), (q4, .inl (cI, 120, .inl (mI y_a_weights))), (q5, .inl (cZ, 120, .inl (mI y_a_lives))), (q6, .inr (1, [.ref q7, .int (iI x_arg0_length)])), (q7, .inl (cI, m0, .inl (mI a_arg0_bytes)))] := ⟨_, rfl⟩
  rw [← hw1]
  have hl := lv_entry ([.ref q0, .ref q6, .int (iI pz2), .int (iI pz3)]) (n := 6) (Nat.le_of_ble_eq_true rfl)
  rw [show entryFrame m args 6 = entryFrame m ([.ref q0, .ref q6, .int (iI pz2), .int (iI pz3)] : List Value).toArray 6 from by rw [hav], lg_entry_eq]
  generalize (lg_sl ([.ref q0, .ref q6, .int (iI pz2), .int (iI pz3)]) ++ List.replicate (6 - (lg_sl ([.ref q0, .ref q6, .int (iI pz2), .int (iI pz3)])).length) Slot.unset).toArray = ls at hl ⊢
  have hl : lv_has ls 6 [(0, .ref q0), (1, .ref q6), (2, .int (iI pz2)), (3, .int (iI pz3))] := hl
  unfold s_X3_give at hs
  have Lz30 : ∀ (fu : Nat) (x_given : Int) (x_alive : Int) (a_bytes : (Int → Int)) (a_lengths : (Int → Int)) (a_weights : (Int → Int)) (a_lives : (Int → Int)) (l2 : Int) (l3 : Int) (l4 : Int) (l5 : Int) (y0 : (Int → Int)), s_X3_give_30 m0 fu a_bytes x_arg0_length a_arg0_bytes l2 l3 l4 l5 = some y0 → ∀ (Hz : Heap) (lz : List Loc), va_P D vwCl [(q0, .inr (3, [.ref q1, .ref q2, .ref q3, .ref q4, .ref q5, .int (iI x_given), .int (iI x_alive)])), (q1, .inr (2, [.int (iI x_folding_on)])), (q2, .inl (cI, 1920, .inl (mI a_bytes))), (q3, .inl (cI, 120, .inl (mI a_lengths))), (q4, .inl (cI, 120, .inl (mI a_weights))), (q5, .inl (cZ, 120, .inl (mI a_lives))), (q6, .inr (1, [.ref q7, .int (iI x_arg0_length)])), (q7, .inl (cI, m0, .inl (mI a_arg0_bytes)))] Hz → va_D Az [(q0, .inr (3, [.ref q1, .ref q2, .ref q3, .ref q4, .ref q5, .int (iI x_given), .int (iI x_alive)])), (q1, .inr (2, [.int (iI x_folding_on)])), (q2, .inl (cI, 1920, .inl (mI a_bytes))), (q3, .inl (cI, 120, .inl (mI a_lengths))), (q4, .inl (cI, 120, .inl (mI a_weights))), (q5, .inl (cZ, 120, .inl (mI a_lives))), (q6, .inr (1, [.ref q7, .int (iI x_arg0_length)])), (q7, .inl (cI, m0, .inl (mI a_arg0_bytes)))] → va_S Az s.heap Hz lz → ∀ ls : Array Slot, lv_has ls 6 [(0, .ref q0), (1, .ref q6), (2, .int (iI l2)), (3, .int (iI l3)), (4, .int (iI l4)), (5, .int (iI l5))] → (∀ (Hz : Heap) (lz : List Loc), va_P D vwCl [(q0, .inr (3, [.ref q1, .ref q2, .ref q3, .ref q4, .ref q5, .int (iI x_given), .int (iI x_alive)])), (q1, .inr (2, [.int (iI x_folding_on)])), (q2, .inl (cI, 1920, .inl (mI y0))), (q3, .inl (cI, 120, .inl (mI a_lengths))), (q4, .inl (cI, 120, .inl (mI a_weights))), (q5, .inl (cZ, 120, .inl (mI a_lives))), (q6, .inr (1, [.ref q7, .int (iI x_arg0_length)])), (q7, .inl (cI, m0, .inl (mI a_arg0_bytes)))] Hz → va_D Az [(q0, .inr (3, [.ref q1, .ref q2, .ref q3, .ref q4, .ref q5, .int (iI x_given), .int (iI x_alive)])), (q1, .inr (2, [.int (iI x_folding_on)])), (q2, .inl (cI, 1920, .inl (mI y0))), (q3, .inl (cI, 120, .inl (mI a_lengths))), (q4, .inl (cI, 120, .inl (mI a_weights))), (q5, .inl (cZ, 120, .inl (mI a_lives))), (q6, .inr (1, [.ref q7, .int (iI x_arg0_length)])), (q7, .inl (cI, m0, .inl (mI a_arg0_bytes)))] → va_S Az s.heap Hz lz → ∀ ls : Array Slot, lv_has ls 6 [(0, .ref q0), (2, .int (iI l2)), (3, .int (iI l3)), (4, .int (iI l4))] → W p l e (headSpec wsX3_give rm_X3_give).room s m args below meth c Hz lz 0 0 (MQ below (QW D vwCl (some (.int (iI r))) wz Az) args s 0 0 Az) (F0 m 62 ls [])) → W p l e (headSpec wsX3_give rm_X3_give).room s m args below meth c Hz lz 0 0 (MQ below (QW D vwCl (some (.int (iI r))) wz Az) args s 0 0 Az) (F0 m 30 ls []) := by
    intro fu
    induction fu with
    | zero => intro x_given x_alive a_bytes a_lengths a_weights a_lives l2 l3 l4 l5 y0 hs; cases hs
    | succ fu ih =>
      intro x_given x_alive a_bytes a_lengths a_weights a_lives l2 l3 l4 l5 y0 hs Hz lz hP hD hSz ls hl kx
      rw [s_X3_give_30_s] at hs
      refine lv_iload hx hb dX3_give_30 (lv_at hl 5 rfl) ?_
      refine lv_iload_n hx hb dX3_give_32 rfl (lv_at hl 2 rfl) ?_
      refine k_icmp_ge (tgt := 62) hx hb hs dX3_give_33 (by decide) (fun hs => ?_) (fun hs => ?_)
      · refine lv_aload_n hx hb dX3_give_36 rfl (lv_at hl 0 rfl) ?_
        refine va_get (ci := 3) (v := .ref q2) (C := RX3) (T := TX3) (N := 7) hx hb hts hiX3 hown hK hP 0 rfl rfl 1 (by decide) hf15 (fun _ h9 => h9) rfl dX3_give_37 ?_
        refine lv_aload_n hx hb dX3_give_40 rfl (lv_at hl 0 rfl) ?_
        refine lv_iload hx hb dX3_give_41 (lv_at hl 4 rfl) ?_
        obtain ⟨vz1, hcz, hs⟩ := bd1_some hs
        have hPc : va_P D vwCl [(q0, .inr (3, [.ref q1, .ref q2, .ref q3, .ref q4, .ref q5, .int (iI x_given), .int (iI x_alive)])), (q1, .inr (2, [.int (iI x_folding_on)])), (q2, .inl (cI, 1920, .inl (mI a_bytes))), (q3, .inl (cI, 120, .inl (mI a_lengths))), (q4, .inl (cI, 120, .inl (mI a_weights))), (q5, .inl (cZ, 120, .inl (mI a_lives)))] Hz := hP.sub [0, 1, 2, 3, 4, 5] rfl
        refine k_rV (As := [.int (iI l4)]) (rest := [.ref q2]) (st1 := [.int (iI vz1), .ref q2]) ⟨hx, hb, hml, hown, hts⟩ hK hPc (c_X3_firstByteOf l D cI cZ cJ hcz) (cwV 1 hts gX3_give_X3_firstByteOf rfl rfl rfl (by decide +kernel) ⟨Nat.le_of_ble_eq_true rfl, Nat.le_of_ble_eq_true rfl⟩) 0 rfl rfl rfl rfl hl.1 rfl (lv_room (Nat.le_of_ble_eq_true rfl)) dX3_give_43 ⟨Nat.zero_le _, Nat.zero_le _⟩ rfl ?_
        refine lv_iload hx hb dX3_give_46 (lv_at hl 5 rfl) ?_
        refine k_iadd hx hb dX3_give_48 ?_
        refine lv_aload_n hx hb dX3_give_49 rfl (lv_at hl 1 rfl) ?_
        refine lv_iload hx hb dX3_give_50 (lv_at hl 5 rfl) ?_
        obtain ⟨vz2, hcz, hs⟩ := bd1_some hs
        have hPc : va_P D vwCl [(q6, .inr (1, [.ref q7, .int (iI x_arg0_length)])), (q7, .inl (cI, m0, .inl (mI a_arg0_bytes)))] Hz := hP.sub [6, 7] rfl
        refine k_rV (As := [.int (iI l5)]) (rest := [.int (iI (vz1 + l5)), .ref q2]) (st1 := [.int (iI vz2), .int (iI (vz1 + l5)), .ref q2]) ⟨hx, hb, hml, hown, hts⟩ hK hPc (c_X1_at l D cI cZ cJ hm0 hcz) (cwV 1 hts gX3_give_X1_at rfl rfl rfl (by decide +kernel) ⟨Nat.le_of_ble_eq_true rfl, Nat.le_of_ble_eq_true rfl⟩) 0 rfl rfl rfl rfl hl.1 rfl (lv_room (Nat.le_of_ble_eq_true rfl)) dX3_give_52 ⟨Nat.zero_le _, Nat.zero_le _⟩ rfl ?_
        refine k_iast hx hb hK hP hD hSz 2 0 rfl rfl (Nat.le_of_ble_eq_true rfl) hs dX3_give_55 (fun Hz lz hP hD hSz hs => ?_)
        have hP : va_P D vwCl [(q0, .inr (3, [.ref q1, .ref q2, .ref q3, .ref q4, .ref q5, .int (iI x_given), .int (iI x_alive)])), (q1, .inr (2, [.int (iI x_folding_on)])), (q2, .inl (cI, 1920, .inl (mI (upA a_bytes (vz1 + l5) vz2)))), (q3, .inl (cI, 120, .inl (mI a_lengths))), (q4, .inl (cI, 120, .inl (mI a_weights))), (q5, .inl (cZ, 120, .inl (mI a_lives))), (q6, .inr (1, [.ref q7, .int (iI x_arg0_length)])), (q7, .inl (cI, m0, .inl (mI a_arg0_bytes)))] Hz := hP
        have hD : va_D Az [(q0, .inr (3, [.ref q1, .ref q2, .ref q3, .ref q4, .ref q5, .int (iI x_given), .int (iI x_alive)])), (q1, .inr (2, [.int (iI x_folding_on)])), (q2, .inl (cI, 1920, .inl (mI (upA a_bytes (vz1 + l5) vz2)))), (q3, .inl (cI, 120, .inl (mI a_lengths))), (q4, .inl (cI, 120, .inl (mI a_weights))), (q5, .inl (cZ, 120, .inl (mI a_lives))), (q6, .inr (1, [.ref q7, .int (iI x_arg0_length)])), (q7, .inl (cI, m0, .inl (mI a_arg0_bytes)))] := hD
        refine k_iinc (x := l5) (k := 5) (lv' := [(5, .int (iI (l5 + 1))), (0, .ref q0), (1, .ref q6), (2, .int (iI l2)), (3, .int (iI l3)), (4, .int (iI l4))]) hx hb dX3_give_56 hl rfl (by decide) rfl (fun ls hl => ?_)
        refine lv_goto (tgt := 30) hx hb dX3_give_59 (by decide) ?_
        exact ih x_given x_alive (upA a_bytes (vz1 + l5) vz2) a_lengths a_weights a_lives l2 l3 l4 (l5 + 1) y0 hs Hz lz hP hD hSz ls (lv_sub hl [1, 2, 3, 4, 5, 0] rfl) kx
      · cases hs
        exact kx Hz lz hP hD hSz ls (lv_sub hl [0, 2, 3, 4] rfl)
  refine (?_ : ∀ (Hz : Heap) (lz : List Loc), va_P D vwCl [(q0, .inr (3, [.ref q1, .ref q2, .ref q3, .ref q4, .ref q5, .int (iI x_given), .int (iI x_alive)])), (q1, .inr (2, [.int (iI x_folding_on)])), (q2, .inl (cI, 1920, .inl (mI a_bytes))), (q3, .inl (cI, 120, .inl (mI a_lengths))), (q4, .inl (cI, 120, .inl (mI a_weights))), (q5, .inl (cZ, 120, .inl (mI a_lives))), (q6, .inr (1, [.ref q7, .int (iI x_arg0_length)])), (q7, .inl (cI, m0, .inl (mI a_arg0_bytes)))] Hz → va_D Az [(q0, .inr (3, [.ref q1, .ref q2, .ref q3, .ref q4, .ref q5, .int (iI x_given), .int (iI x_alive)])), (q1, .inr (2, [.int (iI x_folding_on)])), (q2, .inl (cI, 1920, .inl (mI a_bytes))), (q3, .inl (cI, 120, .inl (mI a_lengths))), (q4, .inl (cI, 120, .inl (mI a_weights))), (q5, .inl (cZ, 120, .inl (mI a_lives))), (q6, .inr (1, [.ref q7, .int (iI x_arg0_length)])), (q7, .inl (cI, m0, .inl (mI a_arg0_bytes)))] → va_S Az s.heap Hz lz → W p l e (headSpec wsX3_give rm_X3_give).room s m args below meth c Hz lz 0 0 (MQ below (QW D vwCl (some (.int (iI r))) wz Az) args s 0 0 Az) (F0 m 0 ls [])) s.heap [] hP hD hSz
  intro Hz lz hP hD hSz
  refine lv_aload_n hx hb dX3_give_0 rfl (lv_at hl 0 rfl) ?_
  refine va_get (ci := 3) (v := .int (iI x_given)) (C := RX3) (T := TX3) (N := 7) hx hb hts hiX3 hown hK hP 0 rfl rfl 5 (by decide) hf29 (fun _ h9 => h9) rfl dX3_give_1 ?_
  refine k_bipush (n := 120) hx hb (by decide) dX3_give_4 ?_
  refine k_icmp_ge (tgt := 19) hx hb hs dX3_give_6 (by decide) (fun hs => ?_) (fun hs => ?_)
  · refine lv_iload_n hx hb dX3_give_9 rfl (lv_at hl 2 rfl) ?_
    refine k_if_lt (tgt := 19) hx hb hs dX3_give_10 (by decide) (fun hs => ?_) (fun hs => ?_)
    · refine k_iconst (n := (-1)) hx hb dX3_give_19 ?_
      cases hs
      exact k_iret_w hx hb hr hlk (by rw [hw1]; exact hP) hSz dX3_give_20 rfl
    · refine lv_iload_n hx hb dX3_give_13 rfl (lv_at hl 2 rfl) ?_
      refine k_bipush (n := 16) hx hb (by decide) dX3_give_14 ?_
      refine k_icmp_le (tgt := 21) hx hb hs dX3_give_16 (by decide) (fun hs => ?_) (fun hs => ?_)
      · refine k_iconst (n := (-1)) hx hb dX3_give_19 ?_
        cases hs
        exact k_iret_w hx hb hr hlk (by rw [hw1]; exact hP) hSz dX3_give_20 rfl
      · refine lv_aload_n hx hb dX3_give_21 rfl (lv_at hl 0 rfl) ?_
        refine va_get (ci := 3) (v := .int (iI x_given)) (C := RX3) (T := TX3) (N := 7) hx hb hts hiX3 hown hK hP 0 rfl rfl 5 (by decide) hf29 (fun _ h9 => h9) rfl dX3_give_22 ?_
        refine lv_istore (lv' := [(4, .int (iI x_given)), (0, .ref q0), (1, .ref q6), (2, .int (iI pz2)), (3, .int (iI pz3))]) hx hb dX3_give_25 hl (by decide) rfl (fun ls hl => ?_)
        refine k_iconst (n := 0) hx hb dX3_give_27 ?_
        refine lv_istore (lv' := [(5, .int (iI 0)), (4, .int (iI x_given)), (0, .ref q0), (1, .ref q6), (2, .int (iI pz2)), (3, .int (iI pz3))]) hx hb dX3_give_28 hl (by decide) rfl (fun ls hl => ?_)
        obtain ⟨ez3, hq, hs⟩ := bd1_some hs
        refine Lz30 FU x_given x_alive a_bytes a_lengths a_weights a_lives pz2 pz3 x_given 0 ez3 hq Hz lz hP hD hSz ls (lv_sub hl [2, 3, 4, 5, 1, 0] rfl) ?_
        intro Hz lz hP hD hSz ls hl
        refine lv_aload_n hx hb dX3_give_62 rfl (lv_at hl 0 rfl) ?_
        refine va_get (ci := 3) (v := .ref q3) (C := RX3) (T := TX3) (N := 7) hx hb hts hiX3 hown hK hP 0 rfl rfl 2 (by decide) hf19 (fun _ h9 => h9) rfl dX3_give_63 ?_
        refine lv_iload hx hb dX3_give_66 (lv_at hl 3 rfl) ?_
        refine lv_iload_n hx hb dX3_give_68 rfl (lv_at hl 1 rfl) ?_
        refine k_iast hx hb hK hP hD hSz 3 0 rfl rfl (Nat.le_of_ble_eq_true rfl) hs dX3_give_69 (fun Hz lz hP hD hSz hs => ?_)
        have hP : va_P D vwCl [(q0, .inr (3, [.ref q1, .ref q2, .ref q3, .ref q4, .ref q5, .int (iI x_given), .int (iI x_alive)])), (q1, .inr (2, [.int (iI x_folding_on)])), (q2, .inl (cI, 1920, .inl (mI ez3))), (q3, .inl (cI, 120, .inl (mI (upA a_lengths x_given pz2)))), (q4, .inl (cI, 120, .inl (mI a_weights))), (q5, .inl (cZ, 120, .inl (mI a_lives))), (q6, .inr (1, [.ref q7, .int (iI x_arg0_length)])), (q7, .inl (cI, m0, .inl (mI a_arg0_bytes)))] Hz := hP
        have hD : va_D Az [(q0, .inr (3, [.ref q1, .ref q2, .ref q3, .ref q4, .ref q5, .int (iI x_given), .int (iI x_alive)])), (q1, .inr (2, [.int (iI x_folding_on)])), (q2, .inl (cI, 1920, .inl (mI ez3))), (q3, .inl (cI, 120, .inl (mI (upA a_lengths x_given pz2)))), (q4, .inl (cI, 120, .inl (mI a_weights))), (q5, .inl (cZ, 120, .inl (mI a_lives))), (q6, .inr (1, [.ref q7, .int (iI x_arg0_length)])), (q7, .inl (cI, m0, .inl (mI a_arg0_bytes)))] := hD
        refine lv_aload_n hx hb dX3_give_70 rfl (lv_at hl 0 rfl) ?_
        refine va_get (ci := 3) (v := .ref q4) (C := RX3) (T := TX3) (N := 7) hx hb hts hiX3 hown hK hP 0 rfl rfl 3 (by decide) hf22 (fun _ h9 => h9) rfl dX3_give_71 ?_
        refine lv_iload hx hb dX3_give_74 (lv_at hl 3 rfl) ?_
        refine lv_iload_n hx hb dX3_give_76 rfl (lv_at hl 2 rfl) ?_
        refine k_iast hx hb hK hP hD hSz 4 0 rfl rfl (Nat.le_of_ble_eq_true rfl) hs dX3_give_77 (fun Hz lz hP hD hSz hs => ?_)
        have hP : va_P D vwCl [(q0, .inr (3, [.ref q1, .ref q2, .ref q3, .ref q4, .ref q5, .int (iI x_given), .int (iI x_alive)])), (q1, .inr (2, [.int (iI x_folding_on)])), (q2, .inl (cI, 1920, .inl (mI ez3))), (q3, .inl (cI, 120, .inl (mI (upA a_lengths x_given pz2)))), (q4, .inl (cI, 120, .inl (mI (upA a_weights x_given pz3)))), (q5, .inl (cZ, 120, .inl (mI a_lives))), (q6, .inr (1, [.ref q7, .int (iI x_arg0_length)])), (q7, .inl (cI, m0, .inl (mI a_arg0_bytes)))] Hz := hP
        have hD : va_D Az [(q0, .inr (3, [.ref q1, .ref q2, .ref q3, .ref q4, .ref q5, .int (iI x_given), .int (iI x_alive)])), (q1, .inr (2, [.int (iI x_folding_on)])), (q2, .inl (cI, 1920, .inl (mI ez3))), (q3, .inl (cI, 120, .inl (mI (upA a_lengths x_given pz2)))), (q4, .inl (cI, 120, .inl (mI (upA a_weights x_given pz3)))), (q5, .inl (cZ, 120, .inl (mI a_lives))), (q6, .inr (1, [.ref q7, .int (iI x_arg0_length)])), (q7, .inl (cI, m0, .inl (mI a_arg0_bytes)))] := hD
        refine lv_aload_n hx hb dX3_give_78 rfl (lv_at hl 0 rfl) ?_
        refine va_get (ci := 3) (v := .ref q5) (C := RX3) (T := TX3) (N := 7) hx hb hts hiX3 hown hK hP 0 rfl rfl 4 (by decide) hf25 (fun _ h9 => h9) rfl dX3_give_79 ?_
        refine lv_iload hx hb dX3_give_82 (lv_at hl 3 rfl) ?_
        refine k_iconst (n := 1) hx hb dX3_give_84 ?_
        refine k_zast hx hb hK hP hD hSz 5 1 rfl rfl (Nat.le_of_ble_eq_true rfl) (by decide) hs dX3_give_85 (fun Hz lz hP hD hSz hs => ?_)
        have hP : va_P D vwCl [(q0, .inr (3, [.ref q1, .ref q2, .ref q3, .ref q4, .ref q5, .int (iI x_given), .int (iI x_alive)])), (q1, .inr (2, [.int (iI x_folding_on)])), (q2, .inl (cI, 1920, .inl (mI ez3))), (q3, .inl (cI, 120, .inl (mI (upA a_lengths x_given pz2)))), (q4, .inl (cI, 120, .inl (mI (upA a_weights x_given pz3)))), (q5, .inl (cZ, 120, .inl (mI (upA a_lives x_given 1)))), (q6, .inr (1, [.ref q7, .int (iI x_arg0_length)])), (q7, .inl (cI, m0, .inl (mI a_arg0_bytes)))] Hz := hP
        have hD : va_D Az [(q0, .inr (3, [.ref q1, .ref q2, .ref q3, .ref q4, .ref q5, .int (iI x_given), .int (iI x_alive)])), (q1, .inr (2, [.int (iI x_folding_on)])), (q2, .inl (cI, 1920, .inl (mI ez3))), (q3, .inl (cI, 120, .inl (mI (upA a_lengths x_given pz2)))), (q4, .inl (cI, 120, .inl (mI (upA a_weights x_given pz3)))), (q5, .inl (cZ, 120, .inl (mI (upA a_lives x_given 1)))), (q6, .inr (1, [.ref q7, .int (iI x_arg0_length)])), (q7, .inl (cI, m0, .inl (mI a_arg0_bytes)))] := hD
        refine lv_aload_n hx hb dX3_give_86 rfl (lv_at hl 0 rfl) ?_
        refine lv_dup hx hb dX3_give_87 rfl ?_
        refine va_get (ci := 3) (v := .int (iI x_given)) (C := RX3) (T := TX3) (N := 7) hx hb hts hiX3 hown hK hP 0 rfl rfl 5 (by decide) hf29 (fun _ h9 => h9) rfl dX3_give_88 ?_
        refine k_iconst (n := 1) hx hb dX3_give_91 ?_
        refine k_iadd hx hb dX3_give_92 ?_
        refine va_put (ci := 3) (v := .int (iI (x_given + 1))) (ty := .int) (C := RX3) (T := TX3) (N := 7) hx hb hts hiX3 tyX3 tyX3_ok nmX3 hown hK hP hD hSz 0 rfl rfl 5 (by decide) hf29 (fun _ h9 => h9) rfl (by decide +kernel) rfl rfl (Nat.le_of_ble_eq_true rfl) dX3_give_93 (fun Hz lz hP hD hSz => ?_)
        have hP : va_P D vwCl [(q0, .inr (3, [.ref q1, .ref q2, .ref q3, .ref q4, .ref q5, .int (iI (x_given + 1)), .int (iI x_alive)])), (q1, .inr (2, [.int (iI x_folding_on)])), (q2, .inl (cI, 1920, .inl (mI ez3))), (q3, .inl (cI, 120, .inl (mI (upA a_lengths x_given pz2)))), (q4, .inl (cI, 120, .inl (mI (upA a_weights x_given pz3)))), (q5, .inl (cZ, 120, .inl (mI (upA a_lives x_given 1)))), (q6, .inr (1, [.ref q7, .int (iI x_arg0_length)])), (q7, .inl (cI, m0, .inl (mI a_arg0_bytes)))] Hz := hP
        have hD : va_D Az [(q0, .inr (3, [.ref q1, .ref q2, .ref q3, .ref q4, .ref q5, .int (iI (x_given + 1)), .int (iI x_alive)])), (q1, .inr (2, [.int (iI x_folding_on)])), (q2, .inl (cI, 1920, .inl (mI ez3))), (q3, .inl (cI, 120, .inl (mI (upA a_lengths x_given pz2)))), (q4, .inl (cI, 120, .inl (mI (upA a_weights x_given pz3)))), (q5, .inl (cZ, 120, .inl (mI (upA a_lives x_given 1)))), (q6, .inr (1, [.ref q7, .int (iI x_arg0_length)])), (q7, .inl (cI, m0, .inl (mI a_arg0_bytes)))] := hD
        refine lv_aload_n hx hb dX3_give_96 rfl (lv_at hl 0 rfl) ?_
        refine lv_dup hx hb dX3_give_97 rfl ?_
        refine va_get (ci := 3) (v := .int (iI x_alive)) (C := RX3) (T := TX3) (N := 7) hx hb hts hiX3 hown hK hP 0 rfl rfl 6 (by decide) hf33 (fun _ h9 => h9) rfl dX3_give_98 ?_
        refine k_iconst (n := 1) hx hb dX3_give_101 ?_
        refine k_iadd hx hb dX3_give_102 ?_
        refine va_put (ci := 3) (v := .int (iI (x_alive + 1))) (ty := .int) (C := RX3) (T := TX3) (N := 7) hx hb hts hiX3 tyX3 tyX3_ok nmX3 hown hK hP hD hSz 0 rfl rfl 6 (by decide) hf33 (fun _ h9 => h9) rfl (by decide +kernel) rfl rfl (Nat.le_of_ble_eq_true rfl) dX3_give_103 (fun Hz lz hP hD hSz => ?_)
        have hP : va_P D vwCl [(q0, .inr (3, [.ref q1, .ref q2, .ref q3, .ref q4, .ref q5, .int (iI (x_given + 1)), .int (iI (x_alive + 1))])), (q1, .inr (2, [.int (iI x_folding_on)])), (q2, .inl (cI, 1920, .inl (mI ez3))), (q3, .inl (cI, 120, .inl (mI (upA a_lengths x_given pz2)))), (q4, .inl (cI, 120, .inl (mI (upA a_weights x_given pz3)))), (q5, .inl (cZ, 120, .inl (mI (upA a_lives x_given 1)))), (q6, .inr (1, [.ref q7, .int (iI x_arg0_length)])), (q7, .inl (cI, m0, .inl (mI a_arg0_bytes)))] Hz := hP
        have hD : va_D Az [(q0, .inr (3, [.ref q1, .ref q2, .ref q3, .ref q4, .ref q5, .int (iI (x_given + 1)), .int (iI (x_alive + 1))])), (q1, .inr (2, [.int (iI x_folding_on)])), (q2, .inl (cI, 1920, .inl (mI ez3))), (q3, .inl (cI, 120, .inl (mI (upA a_lengths x_given pz2)))), (q4, .inl (cI, 120, .inl (mI (upA a_weights x_given pz3)))), (q5, .inl (cZ, 120, .inl (mI (upA a_lives x_given 1)))), (q6, .inr (1, [.ref q7, .int (iI x_arg0_length)])), (q7, .inl (cI, m0, .inl (mI a_arg0_bytes)))] := hD
        refine lv_iload hx hb dX3_give_106 (lv_at hl 3 rfl) ?_
        cases hs
        exact k_iret_w hx hb hr hlk (by rw [hw1]; exact hP) hSz dX3_give_108 rfl
  · refine k_iconst (n := (-1)) hx hb dX3_give_19 ?_
    cases hs
    exact k_iret_w hx hb hr hlk (by rw [hw1]; exact hP) hSz dX3_give_20 rfl
/-! X3_isGiven -/
set_option maxHeartbeats 4000000 in
set_option maxRecDepth 100000 in
theorem c_X3_isGiven (l : Launch) (D : va_G) (cI cZ cJ : ClassId) {q0 q1 q2 q3 q4 q5 : Nat} {x_given : Int} {x_alive : Int} {x_folding_on : Int} {a_bytes : (Int → Int)} {a_lengths : (Int → Int)} {a_weights : (Int → Int)} {a_lives : (Int → Int)} {pz1 : Int} {r : Int} (hs : s_X3_isGiven x_given pz1 = some r) : Met l yX3_isGiven wsX3_isGiven rm_X3_isGiven (PR D vwCl [(cI, .int), (cZ, .boolean), (cJ, .long)] [.ref q0, .int (iI pz1)] [(q0, .inr (3, [.ref q1, .ref q2, .ref q3, .ref q4, .ref q5, .int (iI x_given), .int (iI x_alive)])), (q1, .inr (2, [.int (iI x_folding_on)])), (q2, .inl (cI, 1920, .inl (mI a_bytes))), (q3, .inl (cI, 120, .inl (mI a_lengths))), (q4, .inl (cI, 120, .inl (mI a_weights))), (q5, .inl (cZ, 120, .inl (mI a_lives)))]) (QR (some (.int (iI r)))) 0 0 (fun _ => False) := by
  refine Met.ofW (cc := cX3_isGiven) (maxL := 2) (ret := (some .boolean)) (by decide) rfl ?_
  intro p e s m args below meth c s₁ B hml hv
  obtain ⟨hav, hP, hK⟩ := hv
  have hx := B.exec
  have hb := B.bytes
  have hr := B.returns
  have hts := atoms_spec (ws := wsX3_isGiven) B.pre
  have hown : s.vm.findClass RX3 = some m.cls := findClass_of_methodNamed B.named
  have hlk := B.notSynchronized
  have hf29 : (Cond.fieldLink RX3 29 "KeywordMatcher$Keywords" "given" "I").before args s = true := hts _ (List.mem_of_getElem? (i := 1) rfl)
  have hiX3 : ∀ w ∈ wsX30, w ∈ wsX3_isGiven := fun w h => List.mem_cons_of_mem _ (List.mem_append_right _ h)
  have hl := lv_entry ([.ref q0, .int (iI pz1)]) (n := 2) (Nat.le_of_ble_eq_true rfl)
  rw [show entryFrame m args 2 = entryFrame m ([.ref q0, .int (iI pz1)] : List Value).toArray 2 from by rw [hav], lg_entry_eq]
  generalize (lg_sl ([.ref q0, .int (iI pz1)]) ++ List.replicate (2 - (lg_sl ([.ref q0, .int (iI pz1)])).length) Slot.unset).toArray = ls at hl ⊢
  have hl : lv_has ls 2 [(0, .ref q0), (1, .int (iI pz1))] := hl
  unfold s_X3_isGiven at hs
  refine lv_iload_n hx hb dX3_isGiven_0 rfl (lv_at hl 1 rfl) ?_
  refine k_if_lt (tgt := 16) hx hb hs dX3_isGiven_1 (by decide) (fun hs => ?_) (fun hs => ?_)
  · refine k_iconst (n := 0) hx hb dX3_isGiven_16 ?_
    cases hs
    exact k_zret_r hx hb hr hlk rfl (by decide) dX3_isGiven_17 rfl
  · refine lv_iload_n hx hb dX3_isGiven_4 rfl (lv_at hl 1 rfl) ?_
    refine lv_aload_n hx hb dX3_isGiven_5 rfl (lv_at hl 0 rfl) ?_
    refine va_get (ci := 3) (v := .int (iI x_given)) (C := RX3) (T := TX3) (N := 7) hx hb hts hiX3 hown hK hP 0 rfl rfl 5 (by decide) hf29 (fun _ h9 => h9) rfl dX3_isGiven_6 ?_
    refine k_icmp_ge (tgt := 16) hx hb hs dX3_isGiven_9 (by decide) (fun hs => ?_) (fun hs => ?_)
    · refine k_iconst (n := 1) hx hb dX3_isGiven_12 ?_
      refine lv_goto (tgt := 17) hx hb dX3_isGiven_13 (by decide) ?_
      cases hs
      exact k_zret_r hx hb hr hlk rfl (by decide) dX3_isGiven_17 rfl
    · refine k_iconst (n := 0) hx hb dX3_isGiven_16 ?_
      cases hs
      exact k_zret_r hx hb hr hlk rfl (by decide) dX3_isGiven_17 rfl
/-! X3_isAlive -/
set_option maxHeartbeats 4000000 in
set_option maxRecDepth 100000 in
theorem c_X3_isAlive (l : Launch) (D : va_G) (cI cZ cJ : ClassId) {q0 q1 q2 q3 q4 q5 : Nat} {x_given : Int} {x_alive : Int} {x_folding_on : Int} {a_bytes : (Int → Int)} {a_lengths : (Int → Int)} {a_weights : (Int → Int)} {a_lives : (Int → Int)} {pz1 : Int} {r : Int} (hs : s_X3_isAlive x_given a_lives pz1 = some r) : Met l yX3_isAlive wsX3_isAlive rm_X3_isAlive (PR D vwCl [(cI, .int), (cZ, .boolean), (cJ, .long)] [.ref q0, .int (iI pz1)] [(q0, .inr (3, [.ref q1, .ref q2, .ref q3, .ref q4, .ref q5, .int (iI x_given), .int (iI x_alive)])), (q1, .inr (2, [.int (iI x_folding_on)])), (q2, .inl (cI, 1920, .inl (mI a_bytes))), (q3, .inl (cI, 120, .inl (mI a_lengths))), (q4, .inl (cI, 120, .inl (mI a_weights))), (q5, .inl (cZ, 120, .inl (mI a_lives)))]) (QR (some (.int (iI r)))) 0 0 (fun _ => False) := by
  refine Met.ofW (cc := cX3_isAlive) (maxL := 2) (ret := (some .boolean)) (by decide) rfl ?_
  intro p e s m args below meth c s₁ B hml hv
  obtain ⟨hav, hP, hK⟩ := hv
  have hx := B.exec
  have hb := B.bytes
  have hr := B.returns
  have hts := atoms_spec (ws := wsX3_isAlive) B.pre
  have hown : s.vm.findClass RX3 = some m.cls := findClass_of_methodNamed B.named
  have hlk := B.notSynchronized
  have hf25 : (Cond.fieldLink RX3 25 "KeywordMatcher$Keywords" "lives" "[Z").before args s = true := hts _ (List.mem_of_getElem? (i := 1) rfl)
  have hiX3 : ∀ w ∈ wsX30, w ∈ wsX3_isAlive := fun w h => List.mem_cons_of_mem _ (List.mem_append_right _ h)
  have hl := lv_entry ([.ref q0, .int (iI pz1)]) (n := 2) (Nat.le_of_ble_eq_true rfl)
  rw [show entryFrame m args 2 = entryFrame m ([.ref q0, .int (iI pz1)] : List Value).toArray 2 from by rw [hav], lg_entry_eq]
  generalize (lg_sl ([.ref q0, .int (iI pz1)]) ++ List.replicate (2 - (lg_sl ([.ref q0, .int (iI pz1)])).length) Slot.unset).toArray = ls at hl ⊢
  have hl : lv_has ls 2 [(0, .ref q0), (1, .int (iI pz1))] := hl
  unfold s_X3_isAlive at hs
  refine lv_aload_n hx hb dX3_isAlive_0 rfl (lv_at hl 0 rfl) ?_
  refine lv_iload_n hx hb dX3_isAlive_1 rfl (lv_at hl 1 rfl) ?_
  obtain ⟨vz1, hcz, hs⟩ := bd1_some hs
  have hPc : va_P D vwCl [(q0, .inr (3, [.ref q1, .ref q2, .ref q3, .ref q4, .ref q5, .int (iI x_given), .int (iI x_alive)])), (q1, .inr (2, [.int (iI x_folding_on)])), (q2, .inl (cI, 1920, .inl (mI a_bytes))), (q3, .inl (cI, 120, .inl (mI a_lengths))), (q4, .inl (cI, 120, .inl (mI a_weights))), (q5, .inl (cZ, 120, .inl (mI a_lives)))] s.heap := hP.sub [0, 1, 2, 3, 4, 5] rfl
  refine k_rV (As := [.int (iI pz1)]) (rest := []) (st1 := [.int (iI vz1)]) ⟨hx, hb, hml, hown, hts⟩ hK hPc (c_X3_isGiven l D cI cZ cJ hcz) (cwV 1 hts gX3_isAlive_X3_isGiven rfl rfl rfl (by decide +kernel) ⟨Nat.le_of_ble_eq_true rfl, Nat.le_of_ble_eq_true rfl⟩) 0 rfl rfl rfl rfl hl.1 rfl (lv_room (Nat.le_of_ble_eq_true rfl)) dX3_isAlive_2 ⟨Nat.zero_le _, Nat.zero_le _⟩ rfl ?_
  refine k_if_eq (tgt := 21) hx hb hs dX3_isAlive_5 (by decide) (fun hs => ?_) (fun hs => ?_)
  · refine k_iconst (n := 0) hx hb dX3_isAlive_21 ?_
    cases hs
    exact k_zret_r hx hb hr hlk rfl (by decide) dX3_isAlive_22 rfl
  · refine lv_aload_n hx hb dX3_isAlive_8 rfl (lv_at hl 0 rfl) ?_
    refine va_get (ci := 3) (v := .ref q5) (C := RX3) (T := TX3) (N := 7) hx hb hts hiX3 hown hK hP 0 rfl rfl 4 (by decide) hf25 (fun _ h9 => h9) rfl dX3_isAlive_9 ?_
    refine lv_iload_n hx hb dX3_isAlive_12 rfl (lv_at hl 1 rfl) ?_
    refine k_zald hx hb hK hP 5 1 rfl rfl (Nat.le_of_ble_eq_true rfl) hs dX3_isAlive_13 (fun vz2 hs => ?_)
    refine k_if_eq (tgt := 21) hx hb hs dX3_isAlive_14 (by decide) (fun hs => ?_) (fun hs => ?_)
    · refine k_iconst (n := 0) hx hb dX3_isAlive_21 ?_
      cases hs
      exact k_zret_r hx hb hr hlk rfl (by decide) dX3_isAlive_22 rfl
    · refine k_iconst (n := 1) hx hb dX3_isAlive_17 ?_
      refine lv_goto (tgt := 22) hx hb dX3_isAlive_18 (by decide) ?_
      cases hs
      exact k_zret_r hx hb hr hlk rfl (by decide) dX3_isAlive_22 rfl
/-! X3_retire -/
set_option maxHeartbeats 4000000 in
set_option maxRecDepth 100000 in
theorem c_X3_retire (l : Launch) (D : va_G) (cI cZ cJ : ClassId) {q0 q1 q2 q3 q4 q5 : Nat} {x_given : Int} {x_alive : Int} {x_folding_on : Int} {a_bytes : (Int → Int)} {a_lengths : (Int → Int)} {a_weights : (Int → Int)} {a_lives : (Int → Int)} {pz1 : Int} {y_x_alive : Int} {y_a_lives : (Int → Int)} {sz : Nat} (hs : s_X3_retire x_given x_alive a_lives pz1 = some (y_x_alive, y_a_lives)) : Met l yX3_retire wsX3_retire rm_X3_retire (PW D vwCl [(cI, .int), (cZ, .boolean), (cJ, .long)] [.ref q0, .int (iI pz1)] [(q0, .inr (3, [.ref q1, .ref q2, .ref q3, .ref q4, .ref q5, .int (iI x_given), .int (iI x_alive)])), (q1, .inr (2, [.int (iI x_folding_on)])), (q2, .inl (cI, 1920, .inl (mI a_bytes))), (q3, .inl (cI, 120, .inl (mI a_lengths))), (q4, .inl (cI, 120, .inl (mI a_weights))), (q5, .inl (cZ, 120, .inl (mI a_lives)))] sz) (QW D vwCl none [(q0, .inr (3, [.ref q1, .ref q2, .ref q3, .ref q4, .ref q5, .int (iI x_given), .int (iI y_x_alive)])), (q1, .inr (2, [.int (iI x_folding_on)])), (q2, .inl (cI, 1920, .inl (mI a_bytes))), (q3, .inl (cI, 120, .inl (mI a_lengths))), (q4, .inl (cI, 120, .inl (mI a_weights))), (q5, .inl (cZ, 120, .inl (mI y_a_lives)))] (va_A [(q0, .inr (3, [.ref q1, .ref q2, .ref q3, .ref q4, .ref q5, .int (iI x_given), .int (iI x_alive)])), (q1, .inr (2, [.int (iI x_folding_on)])), (q2, .inl (cI, 1920, .inl (mI a_bytes))), (q3, .inl (cI, 120, .inl (mI a_lengths))), (q4, .inl (cI, 120, .inl (mI a_weights))), (q5, .inl (cZ, 120, .inl (mI a_lives)))] sz)) 0 0 (va_A [(q0, .inr (3, [.ref q1, .ref q2, .ref q3, .ref q4, .ref q5, .int (iI x_given), .int (iI x_alive)])), (q1, .inr (2, [.int (iI x_folding_on)])), (q2, .inl (cI, 1920, .inl (mI a_bytes))), (q3, .inl (cI, 120, .inl (mI a_lengths))), (q4, .inl (cI, 120, .inl (mI a_weights))), (q5, .inl (cZ, 120, .inl (mI a_lives)))] sz) := by
  refine Met.ofW (cc := cX3_retire) (maxL := 2) (ret := none) (by decide) rfl ?_
  intro p e s m args below meth c s₁ B hml hv
  obtain ⟨hav, hsz, hP, hK, hD0⟩ := hv
  have hx := B.exec
  have hb := B.bytes
  have hr := B.returns
  have hts := atoms_spec (ws := wsX3_retire) B.pre
  have hown : s.vm.findClass RX3 = some m.cls := findClass_of_methodNamed B.named
  have hlk := B.notSynchronized
  have hf25 : (Cond.fieldLink RX3 25 "KeywordMatcher$Keywords" "lives" "[Z").before args s = true := hts _ (List.mem_of_getElem? (i := 1) rfl)
  have hiX3 : ∀ w ∈ wsX30, w ∈ wsX3_retire := fun w h => List.mem_cons_of_mem _ (List.mem_append_right _ h)
  have hf33 : (Cond.fieldLink RX3 33 "KeywordMatcher$Keywords" "alive" "I").before args s = true := hts _ (List.mem_of_getElem? (i := 2) rfl)
  subst hsz
  have hD := hD0.self (sz := s.heap.size)
  generalize hAe : va_A [(q0, .inr (3, [.ref q1, .ref q2, .ref q3, .ref q4, .ref q5, .int (iI x_given), .int (iI x_alive)])), (q1, .inr (2, [.int (iI x_folding_on)])), (q2, .inl (cI, 1920, .inl (mI a_bytes))), (q3, .inl (cI, 120, .inl (mI a_lengths))), (q4, .inl (cI, 120, .inl (mI a_weights))), (q5, .inl (cZ, 120, .inl (mI a_lives)))] s.heap.size = Az at hD ⊢
  have hA : ∀ q : Nat, s.heap.size ≤ q → Az q := fun q h => by rw [← hAe]; exact Or.inr h
  clear hAe
  have hSz : va_S Az s.heap s.heap [] := va_S.rf
  obtain ⟨wz, hw1⟩ : ∃ z : va_W, z = [(q0, .inr (3, [.ref q1, .ref q2, .ref q3, .ref q4, .ref q5, .int (iI x_given), .int (iI y_x_alive)])), (q1, .inr (2, [.int (iI x_folding_on)])), (q2, .inl (cI, 1920, .inl (mI a_bytes))), (q3, .inl (cI, 120, .inl (mI a_lengths))), (q4, .inl (cI, 120, .inl (mI a_weights))), (q5, .inl (cZ, 120, .inl (mI y_a_lives)))] := ⟨_, rfl⟩
  rw [← hw1]
  have hl := lv_entry ([.ref q0, .int (iI pz1)]) (n := 2) (Nat.le_of_ble_eq_true rfl)
  rw [show entryFrame m args 2 = entryFrame m ([.ref q0, .int (iI pz1)] : List Value).toArray 2 from by rw [hav], lg_entry_eq]
  generalize (lg_sl ([.ref q0, .int (iI pz1)]) ++ List.replicate (2 - (lg_sl ([.ref q0, .int (iI pz1)])).length) Slot.unset).toArray = ls at hl ⊢
  have hl : lv_has ls 2 [(0, .ref q0), (1, .int (iI pz1))] := hl
  unfold s_X3_retire at hs
  refine (?_ : ∀ (Hz : Heap) (lz : List Loc), va_P D vwCl [(q0, .inr (3, [.ref q1, .ref q2, .ref q3, .ref q4, .ref q5, .int (iI x_given), .int (iI x_alive)])), (q1, .inr (2, [.int (iI x_folding_on)])), (q2, .inl (cI, 1920, .inl (mI a_bytes))), (q3, .inl (cI, 120, .inl (mI a_lengths))), (q4, .inl (cI, 120, .inl (mI a_weights))), (q5, .inl (cZ, 120, .inl (mI a_lives)))] Hz → va_D Az [(q0, .inr (3, [.ref q1, .ref q2, .ref q3, .ref q4, .ref q5, .int (iI x_given), .int (iI x_alive)])), (q1, .inr (2, [.int (iI x_folding_on)])), (q2, .inl (cI, 1920, .inl (mI a_bytes))), (q3, .inl (cI, 120, .inl (mI a_lengths))), (q4, .inl (cI, 120, .inl (mI a_weights))), (q5, .inl (cZ, 120, .inl (mI a_lives)))] → va_S Az s.heap Hz lz → W p l e (headSpec wsX3_retire rm_X3_retire).room s m args below meth c Hz lz 0 0 (MQ below (QW D vwCl none wz Az) args s 0 0 Az) (F0 m 0 ls [])) s.heap [] hP hD hSz
  intro Hz lz hP hD hSz
  refine lv_aload_n hx hb dX3_retire_0 rfl (lv_at hl 0 rfl) ?_
  refine lv_iload_n hx hb dX3_retire_1 rfl (lv_at hl 1 rfl) ?_
  obtain ⟨vz1, hcz, hs⟩ := bd1_some hs
  have hPc : va_P D vwCl [(q0, .inr (3, [.ref q1, .ref q2, .ref q3, .ref q4, .ref q5, .int (iI x_given), .int (iI x_alive)])), (q1, .inr (2, [.int (iI x_folding_on)])), (q2, .inl (cI, 1920, .inl (mI a_bytes))), (q3, .inl (cI, 120, .inl (mI a_lengths))), (q4, .inl (cI, 120, .inl (mI a_weights))), (q5, .inl (cZ, 120, .inl (mI a_lives)))] Hz := hP.sub [0, 1, 2, 3, 4, 5] rfl
  refine k_rV (As := [.int (iI pz1)]) (rest := []) (st1 := [.int (iI vz1)]) ⟨hx, hb, hml, hown, hts⟩ hK hPc (c_X3_isAlive l D cI cZ cJ hcz) (cwV 1 hts gX3_retire_X3_isAlive rfl rfl rfl (by decide +kernel) ⟨Nat.le_of_ble_eq_true rfl, Nat.le_of_ble_eq_true rfl⟩) 0 rfl rfl rfl rfl hl.1 rfl (lv_room (Nat.le_of_ble_eq_true rfl)) dX3_retire_2 ⟨Nat.zero_le _, Nat.zero_le _⟩ rfl ?_
  refine k_if_eq (tgt := 25) hx hb hs dX3_retire_5 (by decide) (fun hs => ?_) (fun hs => ?_)
  · cases hs
    exact k_vret_w hx hb hr hlk (by rw [hw1]; exact hP) hSz dX3_retire_25 rfl
  · refine lv_aload_n hx hb dX3_retire_8 rfl (lv_at hl 0 rfl) ?_
    refine va_get (ci := 3) (v := .ref q5) (C := RX3) (T := TX3) (N := 7) hx hb hts hiX3 hown hK hP 0 rfl rfl 4 (by decide) hf25 (fun _ h9 => h9) rfl dX3_retire_9 ?_
    refine lv_iload_n hx hb dX3_retire_12 rfl (lv_at hl 1 rfl) ?_
    refine k_iconst (n := 0) hx hb dX3_retire_13 ?_
    refine k_zast hx hb hK hP hD hSz 5 1 rfl rfl (Nat.le_of_ble_eq_true rfl) (by decide) hs dX3_retire_14 (fun Hz lz hP hD hSz hs => ?_)
    have hP : va_P D vwCl [(q0, .inr (3, [.ref q1, .ref q2, .ref q3, .ref q4, .ref q5, .int (iI x_given), .int (iI x_alive)])), (q1, .inr (2, [.int (iI x_folding_on)])), (q2, .inl (cI, 1920, .inl (mI a_bytes))), (q3, .inl (cI, 120, .inl (mI a_lengths))), (q4, .inl (cI, 120, .inl (mI a_weights))), (q5, .inl (cZ, 120, .inl (mI (upA a_lives pz1 0))))] Hz := hP
    have hD : va_D Az [(q0, .inr (3, [.ref q1, .ref q2, .ref q3, .ref q4, .ref q5, .int (iI x_given), .int (iI x_alive)])), (q1, .inr (2, [.int (iI x_folding_on)])), (q2, .inl (cI, 1920, .inl (mI a_bytes))), (q3, .inl (cI, 120, .inl (mI a_lengths))), (q4, .inl (cI, 120, .inl (mI a_weights))), (q5, .inl (cZ, 120, .inl (mI (upA a_lives pz1 0))))] := hD
    refine lv_aload_n hx hb dX3_retire_15 rfl (lv_at hl 0 rfl) ?_
    refine lv_dup hx hb dX3_retire_16 rfl ?_
    refine va_get (ci := 3) (v := .int (iI x_alive)) (C := RX3) (T := TX3) (N := 7) hx hb hts hiX3 hown hK hP 0 rfl rfl 6 (by decide) hf33 (fun _ h9 => h9) rfl dX3_retire_17 ?_
    refine k_iconst (n := 1) hx hb dX3_retire_20 ?_
    refine k_isub hx hb dX3_retire_21 ?_
    refine va_put (ci := 3) (v := .int (iI (x_alive - 1))) (ty := .int) (C := RX3) (T := TX3) (N := 7) hx hb hts hiX3 tyX3 tyX3_ok nmX3 hown hK hP hD hSz 0 rfl rfl 6 (by decide) hf33 (fun _ h9 => h9) rfl (by decide +kernel) rfl rfl (Nat.le_of_ble_eq_true rfl) dX3_retire_22 (fun Hz lz hP hD hSz => ?_)
    have hP : va_P D vwCl [(q0, .inr (3, [.ref q1, .ref q2, .ref q3, .ref q4, .ref q5, .int (iI x_given), .int (iI (x_alive - 1))])), (q1, .inr (2, [.int (iI x_folding_on)])), (q2, .inl (cI, 1920, .inl (mI a_bytes))), (q3, .inl (cI, 120, .inl (mI a_lengths))), (q4, .inl (cI, 120, .inl (mI a_weights))), (q5, .inl (cZ, 120, .inl (mI (upA a_lives pz1 0))))] Hz := hP
    have hD : va_D Az [(q0, .inr (3, [.ref q1, .ref q2, .ref q3, .ref q4, .ref q5, .int (iI x_given), .int (iI (x_alive - 1))])), (q1, .inr (2, [.int (iI x_folding_on)])), (q2, .inl (cI, 1920, .inl (mI a_bytes))), (q3, .inl (cI, 120, .inl (mI a_lengths))), (q4, .inl (cI, 120, .inl (mI a_weights))), (q5, .inl (cZ, 120, .inl (mI (upA a_lives pz1 0))))] := hD
    cases hs
    exact k_vret_w hx hb hr hlk (by rw [hw1]; exact hP) hSz dX3_retire_25 rfl
/-! X3_lengthOf -/
set_option maxHeartbeats 4000000 in
set_option maxRecDepth 100000 in
theorem c_X3_lengthOf (l : Launch) (D : va_G) (cI cZ cJ : ClassId) {q0 q1 q2 q3 q4 q5 : Nat} {x_given : Int} {x_alive : Int} {x_folding_on : Int} {a_bytes : (Int → Int)} {a_lengths : (Int → Int)} {a_weights : (Int → Int)} {a_lives : (Int → Int)} {pz1 : Int} {r : Int} (hs : s_X3_lengthOf x_given a_lengths pz1 = some r) : Met l yX3_lengthOf wsX3_lengthOf rm_X3_lengthOf (PR D vwCl [(cI, .int), (cZ, .boolean), (cJ, .long)] [.ref q0, .int (iI pz1)] [(q0, .inr (3, [.ref q1, .ref q2, .ref q3, .ref q4, .ref q5, .int (iI x_given), .int (iI x_alive)])), (q1, .inr (2, [.int (iI x_folding_on)])), (q2, .inl (cI, 1920, .inl (mI a_bytes))), (q3, .inl (cI, 120, .inl (mI a_lengths))), (q4, .inl (cI, 120, .inl (mI a_weights))), (q5, .inl (cZ, 120, .inl (mI a_lives)))]) (QR (some (.int (iI r)))) 0 0 (fun _ => False) := by
  refine Met.ofW (cc := cX3_lengthOf) (maxL := 2) (ret := (some .int)) (by decide) rfl ?_
  intro p e s m args below meth c s₁ B hml hv
  obtain ⟨hav, hP, hK⟩ := hv
  have hx := B.exec
  have hb := B.bytes
  have hr := B.returns
  have hts := atoms_spec (ws := wsX3_lengthOf) B.pre
  have hown : s.vm.findClass RX3 = some m.cls := findClass_of_methodNamed B.named
  have hlk := B.notSynchronized
  have hf19 : (Cond.fieldLink RX3 19 "KeywordMatcher$Keywords" "lengths" "[I").before args s = true := hts _ (List.mem_of_getElem? (i := 1) rfl)
  have hiX3 : ∀ w ∈ wsX30, w ∈ wsX3_lengthOf := fun w h => List.mem_cons_of_mem _ (List.mem_append_right _ h)
  have hl := lv_entry ([.ref q0, .int (iI pz1)]) (n := 2) (Nat.le_of_ble_eq_true rfl)
  rw [show entryFrame m args 2 = entryFrame m ([.ref q0, .int (iI pz1)] : List Value).toArray 2 from by rw [hav], lg_entry_eq]
  generalize (lg_sl ([.ref q0, .int (iI pz1)]) ++ List.replicate (2 - (lg_sl ([.ref q0, .int (iI pz1)])).length) Slot.unset).toArray = ls at hl ⊢
  have hl : lv_has ls 2 [(0, .ref q0), (1, .int (iI pz1))] := hl
  unfold s_X3_lengthOf at hs
  refine lv_aload_n hx hb dX3_lengthOf_0 rfl (lv_at hl 0 rfl) ?_
  refine lv_iload_n hx hb dX3_lengthOf_1 rfl (lv_at hl 1 rfl) ?_
  obtain ⟨vz1, hcz, hs⟩ := bd1_some hs
  have hPc : va_P D vwCl [(q0, .inr (3, [.ref q1, .ref q2, .ref q3, .ref q4, .ref q5, .int (iI x_given), .int (iI x_alive)])), (q1, .inr (2, [.int (iI x_folding_on)])), (q2, .inl (cI, 1920, .inl (mI a_bytes))), (q3, .inl (cI, 120, .inl (mI a_lengths))), (q4, .inl (cI, 120, .inl (mI a_weights))), (q5, .inl (cZ, 120, .inl (mI a_lives)))] s.heap := hP.sub [0, 1, 2, 3, 4, 5] rfl
  refine k_rV (As := [.int (iI pz1)]) (rest := []) (st1 := [.int (iI vz1)]) ⟨hx, hb, hml, hown, hts⟩ hK hPc (c_X3_isGiven l D cI cZ cJ hcz) (cwV 1 hts gX3_lengthOf_X3_isGiven rfl rfl rfl (by decide +kernel) ⟨Nat.le_of_ble_eq_true rfl, Nat.le_of_ble_eq_true rfl⟩) 0 rfl rfl rfl rfl hl.1 rfl (lv_room (Nat.le_of_ble_eq_true rfl)) dX3_lengthOf_2 ⟨Nat.zero_le _, Nat.zero_le _⟩ rfl ?_
  refine k_if_eq (tgt := 17) hx hb hs dX3_lengthOf_5 (by decide) (fun hs => ?_) (fun hs => ?_)
  · refine k_iconst (n := 0) hx hb dX3_lengthOf_17 ?_
    cases hs
    exact k_iret_r hx hb hr hlk rfl dX3_lengthOf_18 rfl
  · refine lv_aload_n hx hb dX3_lengthOf_8 rfl (lv_at hl 0 rfl) ?_
    refine va_get (ci := 3) (v := .ref q3) (C := RX3) (T := TX3) (N := 7) hx hb hts hiX3 hown hK hP 0 rfl rfl 2 (by decide) hf19 (fun _ h9 => h9) rfl dX3_lengthOf_9 ?_
    refine lv_iload_n hx hb dX3_lengthOf_12 rfl (lv_at hl 1 rfl) ?_
    refine k_iald hx hb hK hP 3 0 rfl rfl (Nat.le_of_ble_eq_true rfl) hs dX3_lengthOf_13 (fun vz2 hs => ?_)
    refine lv_goto (tgt := 18) hx hb dX3_lengthOf_14 (by decide) ?_
    cases hs
    exact k_iret_r hx hb hr hlk rfl dX3_lengthOf_18 rfl
/-! X3_weightOf -/
set_option maxHeartbeats 4000000 in
set_option maxRecDepth 100000 in
theorem c_X3_weightOf (l : Launch) (D : va_G) (cI cZ cJ : ClassId) {q0 q1 q2 q3 q4 q5 : Nat} {x_given : Int} {x_alive : Int} {x_folding_on : Int} {a_bytes : (Int → Int)} {a_lengths : (Int → Int)} {a_weights : (Int → Int)} {a_lives : (Int → Int)} {pz1 : Int} {r : Int} (hs : s_X3_weightOf x_given a_weights pz1 = some r) : Met l yX3_weightOf wsX3_weightOf rm_X3_weightOf (PR D vwCl [(cI, .int), (cZ, .boolean), (cJ, .long)] [.ref q0, .int (iI pz1)] [(q0, .inr (3, [.ref q1, .ref q2, .ref q3, .ref q4, .ref q5, .int (iI x_given), .int (iI x_alive)])), (q1, .inr (2, [.int (iI x_folding_on)])), (q2, .inl (cI, 1920, .inl (mI a_bytes))), (q3, .inl (cI, 120, .inl (mI a_lengths))), (q4, .inl (cI, 120, .inl (mI a_weights))), (q5, .inl (cZ, 120, .inl (mI a_lives)))]) (QR (some (.int (iI r)))) 0 0 (fun _ => False) := by
  refine Met.ofW (cc := cX3_weightOf) (maxL := 2) (ret := (some .int)) (by decide) rfl ?_
  intro p e s m args below meth c s₁ B hml hv
  obtain ⟨hav, hP, hK⟩ := hv
  have hx := B.exec
  have hb := B.bytes
  have hr := B.returns
  have hts := atoms_spec (ws := wsX3_weightOf) B.pre
  have hown : s.vm.findClass RX3 = some m.cls := findClass_of_methodNamed B.named
  have hlk := B.notSynchronized
  have hf22 : (Cond.fieldLink RX3 22 "KeywordMatcher$Keywords" "weights" "[I").before args s = true := hts _ (List.mem_of_getElem? (i := 1) rfl)
  have hiX3 : ∀ w ∈ wsX30, w ∈ wsX3_weightOf := fun w h => List.mem_cons_of_mem _ (List.mem_append_right _ h)
  have hl := lv_entry ([.ref q0, .int (iI pz1)]) (n := 2) (Nat.le_of_ble_eq_true rfl)
  rw [show entryFrame m args 2 = entryFrame m ([.ref q0, .int (iI pz1)] : List Value).toArray 2 from by rw [hav], lg_entry_eq]
  generalize (lg_sl ([.ref q0, .int (iI pz1)]) ++ List.replicate (2 - (lg_sl ([.ref q0, .int (iI pz1)])).length) Slot.unset).toArray = ls at hl ⊢
  have hl : lv_has ls 2 [(0, .ref q0), (1, .int (iI pz1))] := hl
  unfold s_X3_weightOf at hs
  refine lv_aload_n hx hb dX3_weightOf_0 rfl (lv_at hl 0 rfl) ?_
  refine lv_iload_n hx hb dX3_weightOf_1 rfl (lv_at hl 1 rfl) ?_
  obtain ⟨vz1, hcz, hs⟩ := bd1_some hs
  have hPc : va_P D vwCl [(q0, .inr (3, [.ref q1, .ref q2, .ref q3, .ref q4, .ref q5, .int (iI x_given), .int (iI x_alive)])), (q1, .inr (2, [.int (iI x_folding_on)])), (q2, .inl (cI, 1920, .inl (mI a_bytes))), (q3, .inl (cI, 120, .inl (mI a_lengths))), (q4, .inl (cI, 120, .inl (mI a_weights))), (q5, .inl (cZ, 120, .inl (mI a_lives)))] s.heap := hP.sub [0, 1, 2, 3, 4, 5] rfl
  refine k_rV (As := [.int (iI pz1)]) (rest := []) (st1 := [.int (iI vz1)]) ⟨hx, hb, hml, hown, hts⟩ hK hPc (c_X3_isGiven l D cI cZ cJ hcz) (cwV 1 hts gX3_weightOf_X3_isGiven rfl rfl rfl (by decide +kernel) ⟨Nat.le_of_ble_eq_true rfl, Nat.le_of_ble_eq_true rfl⟩) 0 rfl rfl rfl rfl hl.1 rfl (lv_room (Nat.le_of_ble_eq_true rfl)) dX3_weightOf_2 ⟨Nat.zero_le _, Nat.zero_le _⟩ rfl ?_
  refine k_if_eq (tgt := 17) hx hb hs dX3_weightOf_5 (by decide) (fun hs => ?_) (fun hs => ?_)
  · refine k_iconst (n := 0) hx hb dX3_weightOf_17 ?_
    cases hs
    exact k_iret_r hx hb hr hlk rfl dX3_weightOf_18 rfl
  · refine lv_aload_n hx hb dX3_weightOf_8 rfl (lv_at hl 0 rfl) ?_
    refine va_get (ci := 3) (v := .ref q4) (C := RX3) (T := TX3) (N := 7) hx hb hts hiX3 hown hK hP 0 rfl rfl 3 (by decide) hf22 (fun _ h9 => h9) rfl dX3_weightOf_9 ?_
    refine lv_iload_n hx hb dX3_weightOf_12 rfl (lv_at hl 1 rfl) ?_
    refine k_iald hx hb hK hP 4 0 rfl rfl (Nat.le_of_ble_eq_true rfl) hs dX3_weightOf_13 (fun vz2 hs => ?_)
    refine lv_goto (tgt := 18) hx hb dX3_weightOf_14 (by decide) ?_
    cases hs
    exact k_iret_r hx hb hr hlk rfl dX3_weightOf_18 rfl
/-! X3_byteOf -/
set_option maxHeartbeats 4000000 in
set_option maxRecDepth 100000 in
theorem c_X3_byteOf (l : Launch) (D : va_G) (cI cZ cJ : ClassId) {q0 q1 q2 q3 q4 q5 : Nat} {x_given : Int} {x_alive : Int} {x_folding_on : Int} {a_bytes : (Int → Int)} {a_lengths : (Int → Int)} {a_weights : (Int → Int)} {a_lives : (Int → Int)} {pz1 : Int} {pz2 : Int} {r : Int} (hs : s_X3_byteOf x_given a_bytes a_lengths pz1 pz2 = some r) : Met l yX3_byteOf wsX3_byteOf rm_X3_byteOf (PR D vwCl [(cI, .int), (cZ, .boolean), (cJ, .long)] [.ref q0, .int (iI pz1), .int (iI pz2)] [(q0, .inr (3, [.ref q1, .ref q2, .ref q3, .ref q4, .ref q5, .int (iI x_given), .int (iI x_alive)])), (q1, .inr (2, [.int (iI x_folding_on)])), (q2, .inl (cI, 1920, .inl (mI a_bytes))), (q3, .inl (cI, 120, .inl (mI a_lengths))), (q4, .inl (cI, 120, .inl (mI a_weights))), (q5, .inl (cZ, 120, .inl (mI a_lives)))]) (QR (some (.int (iI r)))) 0 0 (fun _ => False) := by
  refine Met.ofW (cc := cX3_byteOf) (maxL := 3) (ret := (some .int)) (by decide) rfl ?_
  intro p e s m args below meth c s₁ B hml hv
  obtain ⟨hav, hP, hK⟩ := hv
  have hx := B.exec
  have hb := B.bytes
  have hr := B.returns
  have hts := atoms_spec (ws := wsX3_byteOf) B.pre
  have hown : s.vm.findClass RX3 = some m.cls := findClass_of_methodNamed B.named
  have hlk := B.notSynchronized
  have hf15 : (Cond.fieldLink RX3 15 "KeywordMatcher$Keywords" "bytes" "[I").before args s = true := hts _ (List.mem_of_getElem? (i := 1) rfl)
  have hiX3 : ∀ w ∈ wsX30, w ∈ wsX3_byteOf := fun w h => List.mem_cons_of_mem _ (List.mem_append_right _ h)
  have hl := lv_entry ([.ref q0, .int (iI pz1), .int (iI pz2)]) (n := 3) (Nat.le_of_ble_eq_true rfl)
  rw [show entryFrame m args 3 = entryFrame m ([.ref q0, .int (iI pz1), .int (iI pz2)] : List Value).toArray 3 from by rw [hav], lg_entry_eq]
  generalize (lg_sl ([.ref q0, .int (iI pz1), .int (iI pz2)]) ++ List.replicate (3 - (lg_sl ([.ref q0, .int (iI pz1), .int (iI pz2)])).length) Slot.unset).toArray = ls at hl ⊢
  have hl : lv_has ls 3 [(0, .ref q0), (1, .int (iI pz1)), (2, .int (iI pz2))] := hl
  unfold s_X3_byteOf at hs
  refine lv_iload_n hx hb dX3_byteOf_0 rfl (lv_at hl 2 rfl) ?_
  refine k_if_lt (tgt := 13) hx hb hs dX3_byteOf_1 (by decide) (fun hs => ?_) (fun hs => ?_)
  · refine k_iconst (n := (-1)) hx hb dX3_byteOf_13 ?_
    cases hs
    exact k_iret_r hx hb hr hlk rfl dX3_byteOf_14 rfl
  · refine lv_iload_n hx hb dX3_byteOf_4 rfl (lv_at hl 2 rfl) ?_
    refine lv_aload_n hx hb dX3_byteOf_5 rfl (lv_at hl 0 rfl) ?_
    refine lv_iload_n hx hb dX3_byteOf_6 rfl (lv_at hl 1 rfl) ?_
    obtain ⟨vz1, hcz, hs⟩ := bd1_some hs
    have hPc : va_P D vwCl [(q0, .inr (3, [.ref q1, .ref q2, .ref q3, .ref q4, .ref q5, .int (iI x_given), .int (iI x_alive)])), (q1, .inr (2, [.int (iI x_folding_on)])), (q2, .inl (cI, 1920, .inl (mI a_bytes))), (q3, .inl (cI, 120, .inl (mI a_lengths))), (q4, .inl (cI, 120, .inl (mI a_weights))), (q5, .inl (cZ, 120, .inl (mI a_lives)))] s.heap := hP.sub [0, 1, 2, 3, 4, 5] rfl
    refine k_rV (As := [.int (iI pz1)]) (rest := [.int (iI pz2)]) (st1 := [.int (iI vz1), .int (iI pz2)]) ⟨hx, hb, hml, hown, hts⟩ hK hPc (c_X3_lengthOf l D cI cZ cJ hcz) (cwV 1 hts gX3_byteOf_X3_lengthOf rfl rfl rfl (by decide +kernel) ⟨Nat.le_of_ble_eq_true rfl, Nat.le_of_ble_eq_true rfl⟩) 0 rfl rfl rfl rfl hl.1 rfl (lv_room (Nat.le_of_ble_eq_true rfl)) dX3_byteOf_7 ⟨Nat.zero_le _, Nat.zero_le _⟩ rfl ?_
    refine k_icmp_lt (tgt := 15) hx hb hs dX3_byteOf_10 (by decide) (fun hs => ?_) (fun hs => ?_)
    · refine lv_aload_n hx hb dX3_byteOf_15 rfl (lv_at hl 0 rfl) ?_
      refine va_get (ci := 3) (v := .ref q2) (C := RX3) (T := TX3) (N := 7) hx hb hts hiX3 hown hK hP 0 rfl rfl 1 (by decide) hf15 (fun _ h9 => h9) rfl dX3_byteOf_16 ?_
      refine lv_aload_n hx hb dX3_byteOf_19 rfl (lv_at hl 0 rfl) ?_
      refine lv_iload_n hx hb dX3_byteOf_20 rfl (lv_at hl 1 rfl) ?_
      obtain ⟨vz2, hcz, hs⟩ := bd1_some hs
      have hPc : va_P D vwCl [(q0, .inr (3, [.ref q1, .ref q2, .ref q3, .ref q4, .ref q5, .int (iI x_given), .int (iI x_alive)])), (q1, .inr (2, [.int (iI x_folding_on)])), (q2, .inl (cI, 1920, .inl (mI a_bytes))), (q3, .inl (cI, 120, .inl (mI a_lengths))), (q4, .inl (cI, 120, .inl (mI a_weights))), (q5, .inl (cZ, 120, .inl (mI a_lives)))] s.heap := hP.sub [0, 1, 2, 3, 4, 5] rfl
      refine k_rV (As := [.int (iI pz1)]) (rest := [.ref q2]) (st1 := [.int (iI vz2), .ref q2]) ⟨hx, hb, hml, hown, hts⟩ hK hPc (c_X3_firstByteOf l D cI cZ cJ hcz) (cwV 1 hts gX3_byteOf_X3_firstByteOf rfl rfl rfl (by decide +kernel) ⟨Nat.le_of_ble_eq_true rfl, Nat.le_of_ble_eq_true rfl⟩) 0 rfl rfl rfl rfl hl.1 rfl (lv_room (Nat.le_of_ble_eq_true rfl)) dX3_byteOf_21 ⟨Nat.zero_le _, Nat.zero_le _⟩ rfl ?_
      refine lv_iload_n hx hb dX3_byteOf_24 rfl (lv_at hl 2 rfl) ?_
      refine k_iadd hx hb dX3_byteOf_25 ?_
      refine k_iald hx hb hK hP 2 0 rfl rfl (Nat.le_of_ble_eq_true rfl) hs dX3_byteOf_26 (fun vz3 hs => ?_)
      cases hs
      exact k_iret_r hx hb hr hlk rfl dX3_byteOf_27 rfl
    · refine k_iconst (n := (-1)) hx hb dX3_byteOf_13 ?_
      cases hs
      exact k_iret_r hx hb hr hlk rfl dX3_byteOf_14 rfl
/-! X3_standsAt -/
set_option maxHeartbeats 4000000 in
set_option maxRecDepth 100000 in
theorem c_X3_standsAt (l : Launch) (D : va_G) (cI cZ cJ : ClassId) {q0 q1 q2 q3 q4 q5 q6 q7 : Nat} {m1 : Nat} {x_given : Int} {x_alive : Int} {x_folding_on : Int} {a_bytes : (Int → Int)} {a_lengths : (Int → Int)} {a_weights : (Int → Int)} {a_lives : (Int → Int)} {x_arg1_length : Int} {a_arg1_bytes : (Int → Int)} {pz1 : Int} {pz3 : Int} {r : Int} (hm1 : m1 ≤ 2147483647) (hs : s_X3_standsAt m1 x_given x_folding_on a_bytes a_lengths x_arg1_length a_arg1_bytes pz1 pz3 = some r) : Met l yX3_standsAt wsX3_standsAt rm_X3_standsAt (PR D vwCl [(cI, .int), (cZ, .boolean), (cJ, .long)] [.ref q0, .int (iI pz1), .ref q6, .int (iI pz3)] [(q0, .inr (3, [.ref q1, .ref q2, .ref q3, .ref q4, .ref q5, .int (iI x_given), .int (iI x_alive)])), (q1, .inr (2, [.int (iI x_folding_on)])), (q2, .inl (cI, 1920, .inl (mI a_bytes))), (q3, .inl (cI, 120, .inl (mI a_lengths))), (q4, .inl (cI, 120, .inl (mI a_weights))), (q5, .inl (cZ, 120, .inl (mI a_lives))), (q6, .inr (1, [.ref q7, .int (iI x_arg1_length)])), (q7, .inl (cI, m1, .inl (mI a_arg1_bytes)))]) (QR (some (.int (iI r)))) 0 0 (fun _ => False) := by
  refine Met.ofW (cc := cX3_standsAt) (maxL := 5) (ret := (some .boolean)) (by decide) rfl ?_
  intro p e s m args below meth c s₁ B hml hv
  obtain ⟨hav, hP, hK⟩ := hv
  have hx := B.exec
  have hb := B.bytes
  have hr := B.returns
  have hts := atoms_spec (ws := wsX3_standsAt) B.pre
  have hown : s.vm.findClass RX3 = some m.cls := findClass_of_methodNamed B.named
  have hlk := B.notSynchronized
  have hf59 : (Cond.fieldLink RX3 59 "KeywordMatcher$ByteRow" "length" "I").before args s = true := hts _ (List.mem_of_getElem? (i := 1) rfl)
  have hiX1 : ∀ w ∈ wsX10, w ∈ wsX3_standsAt := fun w h => List.mem_cons_of_mem _ (List.mem_append_left _ (List.mem_append_left _ (List.mem_append_right _ h)))
  have hf9 : (Cond.fieldLink RX3 9 "KeywordMatcher$Keywords" "folding" "LKeywordMatcher$Folding;").before args s = true := hts _ (List.mem_of_getElem? (i := 2) rfl)
  have hiX3 : ∀ w ∈ wsX30, w ∈ wsX3_standsAt := fun w h => List.mem_cons_of_mem _ (List.mem_append_left _ (List.mem_append_right _ h))
  have hf15 : (Cond.fieldLink RX3 15 "KeywordMatcher$Keywords" "bytes" "[I").before args s = true := hts _ (List.mem_of_getElem? (i := 3) rfl)
  have hf62 : (Cond.fieldLink RX3 62 "KeywordMatcher$ByteRow" "bytes" "[I").before args s = true := hts _ (List.mem_of_getElem? (i := 4) rfl)
  have hl := lv_entry ([.ref q0, .int (iI pz1), .ref q6, .int (iI pz3)]) (n := 5) (Nat.le_of_ble_eq_true rfl)
  rw [show entryFrame m args 5 = entryFrame m ([.ref q0, .int (iI pz1), .ref q6, .int (iI pz3)] : List Value).toArray 5 from by rw [hav], lg_entry_eq]
  generalize (lg_sl ([.ref q0, .int (iI pz1), .ref q6, .int (iI pz3)]) ++ List.replicate (5 - (lg_sl ([.ref q0, .int (iI pz1), .ref q6, .int (iI pz3)])).length) Slot.unset).toArray = ls at hl ⊢
  have hl : lv_has ls 5 [(0, .ref q0), (1, .int (iI pz1)), (2, .ref q6), (3, .int (iI pz3))] := hl
  unfold s_X3_standsAt at hs
  refine lv_aload_n hx hb dX3_standsAt_0 rfl (lv_at hl 0 rfl) ?_
  refine lv_iload_n hx hb dX3_standsAt_1 rfl (lv_at hl 1 rfl) ?_
  obtain ⟨vz1, hcz, hs⟩ := bd1_some hs
  have hPc : va_P D vwCl [(q0, .inr (3, [.ref q1, .ref q2, .ref q3, .ref q4, .ref q5, .int (iI x_given), .int (iI x_alive)])), (q1, .inr (2, [.int (iI x_folding_on)])), (q2, .inl (cI, 1920, .inl (mI a_bytes))), (q3, .inl (cI, 120, .inl (mI a_lengths))), (q4, .inl (cI, 120, .inl (mI a_weights))), (q5, .inl (cZ, 120, .inl (mI a_lives)))] s.heap := hP.sub [0, 1, 2, 3, 4, 5] rfl
  refine k_rV (As := [.int (iI pz1)]) (rest := []) (st1 := [.int (iI vz1)]) ⟨hx, hb, hml, hown, hts⟩ hK hPc (c_X3_lengthOf l D cI cZ cJ hcz) (cwV 1 hts gX3_standsAt_X3_lengthOf rfl rfl rfl (by decide +kernel) ⟨Nat.le_of_ble_eq_true rfl, Nat.le_of_ble_eq_true rfl⟩) 0 rfl rfl rfl rfl hl.1 rfl (lv_room (Nat.le_of_ble_eq_true rfl)) dX3_standsAt_2 ⟨Nat.zero_le _, Nat.zero_le _⟩ rfl ?_
  refine lv_istore (lv' := [(4, .int (iI vz1)), (0, .ref q0), (1, .int (iI pz1)), (2, .ref q6), (3, .int (iI pz3))]) hx hb dX3_standsAt_5 hl (by decide) rfl (fun ls hl => ?_)
  refine lv_iload_n hx hb dX3_standsAt_7 rfl (lv_at hl 4 rfl) ?_
  refine k_if_lt (tgt := 52) hx hb hs dX3_standsAt_8 (by decide) (fun hs => ?_) (fun hs => ?_)
  · refine k_iconst (n := 0) hx hb dX3_standsAt_52 ?_
    cases hs
    exact k_zret_r hx hb hr hlk rfl (by decide) dX3_standsAt_53 rfl
  · refine lv_iload_n hx hb dX3_standsAt_11 rfl (lv_at hl 4 rfl) ?_
    refine lv_aload_n hx hb dX3_standsAt_12 rfl (lv_at hl 3 rfl) ?_
    refine va_get (ci := 1) (v := .int (iI x_arg1_length)) (C := RX1) (T := TX1) (N := 2) hx hb hts hiX1 hown hK hP 6 rfl rfl 1 (by decide) hf59 (fun _ h9 => h9) rfl dX3_standsAt_13 ?_
    refine lv_iload hx hb dX3_standsAt_16 (lv_at hl 0 rfl) ?_
    refine k_isub hx hb dX3_standsAt_18 ?_
    refine k_icmp_gt (tgt := 52) hx hb hs dX3_standsAt_19 (by decide) (fun hs => ?_) (fun hs => ?_)
    · refine k_iconst (n := 0) hx hb dX3_standsAt_52 ?_
      cases hs
      exact k_zret_r hx hb hr hlk rfl (by decide) dX3_standsAt_53 rfl
    · refine lv_aload_n hx hb dX3_standsAt_22 rfl (lv_at hl 1 rfl) ?_
      refine va_get (ci := 3) (v := .ref q1) (C := RX3) (T := TX3) (N := 7) hx hb hts hiX3 hown hK hP 0 rfl rfl 0 (by decide) hf9 (fun _ h9 => h9) rfl dX3_standsAt_23 ?_
      refine lv_aload_n hx hb dX3_standsAt_26 rfl (lv_at hl 1 rfl) ?_
      refine va_get (ci := 3) (v := .ref q2) (C := RX3) (T := TX3) (N := 7) hx hb hts hiX3 hown hK hP 0 rfl rfl 1 (by decide) hf15 (fun _ h9 => h9) rfl dX3_standsAt_27 ?_
      refine lv_aload_n hx hb dX3_standsAt_30 rfl (lv_at hl 1 rfl) ?_
      refine lv_iload_n hx hb dX3_standsAt_31 rfl (lv_at hl 2 rfl) ?_
      obtain ⟨vz2, hcz, hs⟩ := bd1_some hs
      have hPc : va_P D vwCl [(q0, .inr (3, [.ref q1, .ref q2, .ref q3, .ref q4, .ref q5, .int (iI x_given), .int (iI x_alive)])), (q1, .inr (2, [.int (iI x_folding_on)])), (q2, .inl (cI, 1920, .inl (mI a_bytes))), (q3, .inl (cI, 120, .inl (mI a_lengths))), (q4, .inl (cI, 120, .inl (mI a_weights))), (q5, .inl (cZ, 120, .inl (mI a_lives)))] s.heap := hP.sub [0, 1, 2, 3, 4, 5] rfl
      refine k_rV (As := [.int (iI pz1)]) (rest := [.ref q2, .ref q1]) (st1 := [.int (iI vz2), .ref q2, .ref q1]) ⟨hx, hb, hml, hown, hts⟩ hK hPc (c_X3_firstByteOf l D cI cZ cJ hcz) (cwV 1 hts gX3_standsAt_X3_firstByteOf rfl rfl rfl (by decide +kernel) ⟨Nat.le_of_ble_eq_true rfl, Nat.le_of_ble_eq_true rfl⟩) 0 rfl rfl rfl rfl hl.1 rfl (lv_room (Nat.le_of_ble_eq_true rfl)) dX3_standsAt_32 ⟨Nat.zero_le _, Nat.zero_le _⟩ rfl ?_
      refine lv_aload_n hx hb dX3_standsAt_35 rfl (lv_at hl 3 rfl) ?_
      refine va_get (ci := 1) (v := .ref q7) (C := RX1) (T := TX1) (N := 2) hx hb hts hiX1 hown hK hP 6 rfl rfl 0 (by decide) hf62 (fun _ h9 => h9) rfl dX3_standsAt_36 ?_
      refine lv_iload_n hx hb dX3_standsAt_39 rfl (lv_at hl 4 rfl) ?_
      refine lv_iload hx hb dX3_standsAt_40 (lv_at hl 0 rfl) ?_
      obtain ⟨vz3, hcz, hs⟩ := bd1_some hs
      have hPc : va_P D vwCl [(q1, .inr (2, [.int (iI x_folding_on)])), (q2, .inl (cI, 1920, .inl (mI a_bytes))), (q7, .inl (cI, m1, .inl (mI a_arg1_bytes)))] s.heap := hP.sub [1, 2, 7] rfl
      refine k_rV (As := [.ref q2, .int (iI vz2), .ref q7, .int (iI pz3), .int (iI vz1)]) (rest := []) (st1 := [.int (iI vz3)]) ⟨hx, hb, hml, hown, hts⟩ hK hPc (c_X2_same l D cI cZ cJ (Nat.le_of_ble_eq_true rfl) hm1 hcz) (cwV 5 hts gX3_standsAt_X2_same rfl rfl rfl (by decide +kernel) ⟨Nat.le_of_ble_eq_true rfl, Nat.le_of_ble_eq_true rfl⟩) 0 rfl rfl rfl rfl hl.1 rfl (lv_room (Nat.le_of_ble_eq_true rfl)) dX3_standsAt_42 ⟨Nat.zero_le _, Nat.zero_le _⟩ rfl ?_
      refine k_if_eq (tgt := 52) hx hb hs dX3_standsAt_45 (by decide) (fun hs => ?_) (fun hs => ?_)
      · refine k_iconst (n := 0) hx hb dX3_standsAt_52 ?_
        cases hs
        exact k_zret_r hx hb hr hlk rfl (by decide) dX3_standsAt_53 rfl
      · refine k_iconst (n := 1) hx hb dX3_standsAt_48 ?_
        refine lv_goto (tgt := 53) hx hb dX3_standsAt_49 (by decide) ?_
        cases hs
        exact k_zret_r hx hb hr hlk rfl (by decide) dX3_standsAt_53 rfl
