/-! X0_init -/
def rm_X0_init : Room := { frames := 1, cells := 1, slots := 127, locals := 12 }
set_option maxHeartbeats 8000000 in
set_option maxRecDepth 100000 in
theorem c_X0_init (l : Launch) (D : va_G) (cI cZ cJ : ClassId) {h0 sz : Nat} : Met l yX0_init wsX0_init rm_X0_init (PW D vwCl [(cI, .int), (cZ, .boolean), (cJ, .long)] [.ref h0] [(h0, .inr (0, [.null, .int 0]))] sz) (QI D vwCl (fun w9 => ∃ qa1 : Nat, w9 = [(h0, .inr (0, [.ref qa1, .int (iI 0)])), (qa1, .inl (cI, 127, .inl (mI (fun _ => 0))))]) (va_A [(h0, .inr (0, [.null, .int 0]))] sz)) 1 127 (va_A [(h0, .inr (0, [.null, .int 0]))] sz) := by
  refine Met.ofW (cc := cX0_init) (maxL := 1) (ret := none) (by decide) rfl ?_
  intro p e s m args below meth c s₁ B hml hv
  obtain ⟨hav, hsz, hP, hK, hD0⟩ := hv
  have hx := B.exec
  have hb := B.bytes
  have hr := B.returns
  have hts := atoms_spec (ws := wsX0_init) B.pre
  have hown : s.vm.findClass RX0 = some m.cls := findClass_of_methodNamed B.named
  have hlk := B.notSynchronized
  have hin : meth.name = "<init>" := (name_of_methodNamed B.named B.method).1
  have hoi : (Cond.methodLink RX0 3 objectInit).before args s = true := hts _ (List.mem_of_getElem? (i := 1) rfl)
  have hoj : (Cond.instanceMethod objectInit).before args s = true := hts _ (List.mem_of_getElem? (i := 2) rfl)
  have hok : (Cond.code objectInit ⟨#[0xb1]⟩ 1 none).before args s = true := hts _ (List.mem_of_getElem? (i := 3) rfl)
  have harI : (Cond.arrayClass .int).before args s = true := hts _ (List.mem_of_getElem? (i := 4) rfl)
  have hf9 : (Cond.fieldLink RX0 9 "KeywordMatcher$BucketSet" "members" "[I").before args s = true := hts _ (List.mem_of_getElem? (i := 5) rfl)
  have hiX0 : ∀ w ∈ wsX00, w ∈ wsX0_init := fun w h => List.mem_cons_of_mem _ (List.mem_append_right _ h)
  have hf15 : (Cond.fieldLink RX0 15 "KeywordMatcher$BucketSet" "count" "I").before args s = true := hts _ (List.mem_of_getElem? (i := 6) rfl)
  subst hsz
  have hD := hD0.self (sz := s.heap.size)
  generalize hAe : va_A [(h0, .inr (0, [.null, .int 0]))] s.heap.size = Az at hD ⊢
  have hA : ∀ q : Nat, s.heap.size ≤ q → Az q := fun q h => by rw [← hAe]; exact Or.inr h
  have hSz : va_S Az s.heap s.heap [] := va_S.rf
  have hl := lv_entry ([.ref h0]) (n := 1) (Nat.le_of_ble_eq_true rfl)
  rw [show entryFrame m args 1 = entryFrame m ([.ref h0] : List Value).toArray 1 from by rw [hav], lg_entry_eq]
  generalize (lg_sl ([.ref h0]) ++ List.replicate (1 - (lg_sl ([.ref h0])).length) Slot.unset).toArray = ls at hl ⊢
  have hl : lv_has ls 1 [(0, .ref h0)] := hl
  refine lv_aload_n hx hb dX0_init_0 rfl (lv_at hl 0 rfl) ?_
  refine W.objInit hx hb hown hoi hoj hok rfl (by rw [hml]; exact hl.1) rfl dX0_init_1 (Nat.le_of_ble_eq_true rfl) (Nat.le_of_ble_eq_true rfl) ?_
  refine W.eq (g2 := F0 m 4 ls []) rfl ?_
  refine lv_aload_n hx hb dX0_init_4 rfl (lv_at hl 0 rfl) ?_
  refine k_bipush (n := 127) hx hb (by decide) dX0_init_5 ?_
  refine k_newa (atype := .int) (ty := .int) (x := 127) (N' := 127) (a0 := (127, .inl (mI (fun _ => 0)))) hx hb harI rfl hK hP hD hSz hA 0 rfl (fun c d h1 h2 => Option.some.inj (h1.symm.trans h2)) arr0I rfl (Nat.le_of_ble_eq_true rfl) (Nat.le_of_ble_eq_true rfl) (Nat.le_of_ble_eq_true rfl) (Nat.le_of_ble_eq_true rfl) dX0_init_7 (fun qa1 Hz hP hD hSz => ?_)
  have hP : va_P D vwCl [(h0, .inr (0, [.null, .int 0])), (qa1, .inl (cI, 127, .inl (mI (fun _ => 0))))] Hz := hP
  have hD : va_D Az [(h0, .inr (0, [.null, .int 0])), (qa1, .inl (cI, 127, .inl (mI (fun _ => 0))))] := hD
  refine W.widen (k := 1) (n := 127) (Nat.le_of_eq rfl) (Nat.le_of_eq rfl) ?_
  refine va_putF (ci := 0) (v := .ref qa1) (ty := (.array .int)) (C := RX0) (T := TX0) (N := 2) hx hb hts hiX0 tyX0 tyX0_ok nmX0 hown hK hP hD hSz 0 rfl rfl 0 (by decide) hf9 (fun _ h9 => h9) rfl hin rfl (by decide +kernel) rfl rfl (Nat.le_of_ble_eq_true rfl) dX0_init_9 (fun Hz lz hP hD hSz => ?_)
  have hP : va_P D vwCl [(h0, .inr (0, [.ref qa1, .int 0])), (qa1, .inl (cI, 127, .inl (mI (fun _ => 0))))] Hz := hP
  have hD : va_D Az [(h0, .inr (0, [.ref qa1, .int 0])), (qa1, .inl (cI, 127, .inl (mI (fun _ => 0))))] := hD
  refine lv_aload_n hx hb dX0_init_12 rfl (lv_at hl 0 rfl) ?_
  refine k_iconst (n := 0) hx hb dX0_init_13 ?_
  refine va_put (ci := 0) (v := .int (iI 0)) (ty := .int) (C := RX0) (T := TX0) (N := 2) hx hb hts hiX0 tyX0 tyX0_ok nmX0 hown hK hP hD hSz 0 rfl rfl 1 (by decide) hf15 (fun _ h9 => h9) rfl (by decide +kernel) rfl rfl (Nat.le_of_ble_eq_true rfl) dX0_init_14 (fun Hz lz hP hD hSz => ?_)
  have hP : va_P D vwCl [(h0, .inr (0, [.ref qa1, .int (iI 0)])), (qa1, .inl (cI, 127, .inl (mI (fun _ => 0))))] Hz := hP
  have hD : va_D Az [(h0, .inr (0, [.ref qa1, .int (iI 0)])), (qa1, .inl (cI, 127, .inl (mI (fun _ => 0))))] := hD
  have hP : va_P D vwCl [(h0, .inr (0, [.ref qa1, .int (iI 0)])), (qa1, .inl (cI, 127, .inl (mI (fun _ => 0))))] _ := hP.sub [0, 1] rfl
  have hD : va_D Az [(h0, .inr (0, [.ref qa1, .int (iI 0)])), (qa1, .inl (cI, 127, .inl (mI (fun _ => 0))))] := hD.sub [0, 1] (by decide) rfl
  exact W.vret hx hb hr (fun t ht _ => ⟨rfl, ⟨_, ⟨qa1, rfl⟩, by rw [ht]; exact hP, hD⟩, hSz.F ht⟩) hSz.2.2 dX0_init_17 hlk
/-! X1_init -/
def rm_X1_init (n0 : Nat) : Room := { frames := 1, cells := 1, slots := n0, locals := 24 }
set_option maxHeartbeats 8000000 in
set_option maxRecDepth 100000 in
theorem c_X1_init (l : Launch) (D : va_G) (cI cZ cJ : ClassId) {h0 sz : Nat} {n0 : Nat} (hn0 : n0 ≤ 100000) : Met l yX1_init wsX1_init (rm_X1_init n0) (PW D vwCl [(cI, .int), (cZ, .boolean), (cJ, .long)] [.ref h0, .int (iI ((n0 : Nat) : Int))] [(h0, .inr (1, [.null, .int 0]))] sz) (QI D vwCl (fun w9 => ∃ qa1 : Nat, w9 = [(h0, .inr (1, [.ref qa1, .int (iI 0)])), (qa1, .inl (cI, n0, .inl (mI (fun _ => 0))))]) (va_A [(h0, .inr (1, [.null, .int 0]))] sz)) 1 n0 (va_A [(h0, .inr (1, [.null, .int 0]))] sz) := by
  refine Met.ofW (cc := cX1_init) (maxL := 2) (ret := none) (by decide) rfl ?_
  intro p e s m args below meth c s₁ B hml hv
  obtain ⟨hav, hsz, hP, hK, hD0⟩ := hv
  have hx := B.exec
  have hb := B.bytes
  have hr := B.returns
  have hts := atoms_spec (ws := wsX1_init) B.pre
  have hown : s.vm.findClass RX1 = some m.cls := findClass_of_methodNamed B.named
  have hlk := B.notSynchronized
  have hin : meth.name = "<init>" := (name_of_methodNamed B.named B.method).1
  have hoi : (Cond.methodLink RX1 3 objectInit).before args s = true := hts _ (List.mem_of_getElem? (i := 1) rfl)
  have hoj : (Cond.instanceMethod objectInit).before args s = true := hts _ (List.mem_of_getElem? (i := 2) rfl)
  have hok : (Cond.code objectInit ⟨#[0xb1]⟩ 1 none).before args s = true := hts _ (List.mem_of_getElem? (i := 3) rfl)
  have hm9 : (Cond.methodLink RX1 9 Lib.Math.max.name).before args s = true := hts _ (List.mem_of_getElem? (i := 4) rfl)
  have hst : (Cond.static Lib.Math.max.name).before args s = true := hts _ (List.mem_of_getElem? (i := 5) rfl)
  have hin_M : (Cond.initialized "java/lang/Math").before args s = true := hts _ (List.mem_of_getElem? (i := 6) rfl)
  have hcd : (Cond.code Lib.Math.max.name Lib.Math.max.code 2 (some .int)).before args s = true := hts _ (List.mem_of_getElem? (i := 7) rfl)
  have harI : (Cond.arrayClass .int).before args s = true := hts _ (List.mem_of_getElem? (i := 8) rfl)
  have hf15 : (Cond.fieldLink RX1 15 "KeywordMatcher$ByteRow" "bytes" "[I").before args s = true := hts _ (List.mem_of_getElem? (i := 9) rfl)
  have hiX1 : ∀ w ∈ wsX10, w ∈ wsX1_init := fun w h => List.mem_cons_of_mem _ (List.mem_append_right _ h)
  have hf21 : (Cond.fieldLink RX1 21 "KeywordMatcher$ByteRow" "length" "I").before args s = true := hts _ (List.mem_of_getElem? (i := 10) rfl)
  subst hsz
  have hD := hD0.self (sz := s.heap.size)
  generalize hAe : va_A [(h0, .inr (1, [.null, .int 0]))] s.heap.size = Az at hD ⊢
  have hA : ∀ q : Nat, s.heap.size ≤ q → Az q := fun q h => by rw [← hAe]; exact Or.inr h
  have hSz : va_S Az s.heap s.heap [] := va_S.rf
  have hcr : cR ((n0 : Nat) : Int) (cR 0 (some ())) = some () := by rw [cR_in ⟨by omega, by omega⟩, cR_in ⟨by omega, by omega⟩]
  have hmx : iMax ((n0 : Nat) : Int) 0 = ((n0 : Nat) : Int) := by unfold iMax; split <;> omega
  have hl := lv_entry ([.ref h0, .int (iI ((n0 : Nat) : Int))]) (n := 2) (Nat.le_of_ble_eq_true rfl)
  rw [show entryFrame m args 2 = entryFrame m ([.ref h0, .int (iI ((n0 : Nat) : Int))] : List Value).toArray 2 from by rw [hav], lg_entry_eq]
  generalize (lg_sl ([.ref h0, .int (iI ((n0 : Nat) : Int))]) ++ List.replicate (2 - (lg_sl ([.ref h0, .int (iI ((n0 : Nat) : Int))])).length) Slot.unset).toArray = ls at hl ⊢
  have hl : lv_has ls 2 [(0, .ref h0), (1, .int (iI ((n0 : Nat) : Int)))] := hl
  refine lv_aload_n hx hb dX1_init_0 rfl (lv_at hl 0 rfl) ?_
  refine W.objInit hx hb hown hoi hoj hok rfl (by rw [hml]; exact hl.1) rfl dX1_init_1 (Nat.le_of_ble_eq_true rfl) (Nat.le_of_ble_eq_true rfl) ?_
  refine W.eq (g2 := F0 m 4 ls []) rfl ?_
  refine lv_aload_n hx hb dX1_init_4 rfl (lv_at hl 0 rfl) ?_
  refine lv_iload_n hx hb dX1_init_5 rfl (lv_at hl 1 rfl) ?_
  refine k_iconst (n := 0) hx hb dX1_init_6 ?_
  refine k_mmax (A := some ()) (r := ()) hx hb (hml.trans hl.1.symm) hown hm9 hst hin_M hcd (Nat.le_of_ble_eq_true rfl) (Nat.le_of_ble_eq_true rfl) (Nat.le_of_ble_eq_true rfl) (by first | exact Nat.zero_le _ | (show _ ≤ _; simp [rm_X1_init, headSpec]; try omega)) hcr dX1_init_7 (fun _ => ?_)
  rw [hmx]
  refine k_newa (atype := .int) (ty := .int) (x := ((n0 : Nat) : Int)) (N' := n0) (a0 := (n0, .inl (mI (fun _ => 0)))) hx hb harI rfl hK hP hD hSz hA 0 rfl (fun c d h1 h2 => Option.some.inj (h1.symm.trans h2)) arr0I rfl (by omega) (by show n0 * 4 ≤ 536870912; omega) (Nat.le_of_ble_eq_true rfl) (by show _ ≤ _; simp [rm_X1_init, headSpec]; try omega) dX1_init_10 (fun qa1 Hz hP hD hSz => ?_)
  have hP : va_P D vwCl [(h0, .inr (1, [.null, .int 0])), (qa1, .inl (cI, n0, .inl (mI (fun _ => 0))))] Hz := hP
  have hD : va_D Az [(h0, .inr (1, [.null, .int 0])), (qa1, .inl (cI, n0, .inl (mI (fun _ => 0))))] := hD
  refine W.widen (k := 1) (n := n0) (by omega) (by omega) ?_
  refine va_putF (ci := 1) (v := .ref qa1) (ty := (.array .int)) (C := RX1) (T := TX1) (N := 2) hx hb hts hiX1 tyX1 tyX1_ok nmX1 hown hK hP hD hSz 0 rfl rfl 0 (by decide) hf15 (fun _ h9 => h9) rfl hin rfl (by decide +kernel) rfl rfl (Nat.le_of_ble_eq_true rfl) dX1_init_12 (fun Hz lz hP hD hSz => ?_)
  have hP : va_P D vwCl [(h0, .inr (1, [.ref qa1, .int 0])), (qa1, .inl (cI, n0, .inl (mI (fun _ => 0))))] Hz := hP
  have hD : va_D Az [(h0, .inr (1, [.ref qa1, .int 0])), (qa1, .inl (cI, n0, .inl (mI (fun _ => 0))))] := hD
  refine lv_aload_n hx hb dX1_init_15 rfl (lv_at hl 0 rfl) ?_
  refine k_iconst (n := 0) hx hb dX1_init_16 ?_
  refine va_put (ci := 1) (v := .int (iI 0)) (ty := .int) (C := RX1) (T := TX1) (N := 2) hx hb hts hiX1 tyX1 tyX1_ok nmX1 hown hK hP hD hSz 0 rfl rfl 1 (by decide) hf21 (fun _ h9 => h9) rfl (by decide +kernel) rfl rfl (Nat.le_of_ble_eq_true rfl) dX1_init_17 (fun Hz lz hP hD hSz => ?_)
  have hP : va_P D vwCl [(h0, .inr (1, [.ref qa1, .int (iI 0)])), (qa1, .inl (cI, n0, .inl (mI (fun _ => 0))))] Hz := hP
  have hD : va_D Az [(h0, .inr (1, [.ref qa1, .int (iI 0)])), (qa1, .inl (cI, n0, .inl (mI (fun _ => 0))))] := hD
  have hP : va_P D vwCl [(h0, .inr (1, [.ref qa1, .int (iI 0)])), (qa1, .inl (cI, n0, .inl (mI (fun _ => 0))))] _ := hP.sub [0, 1] rfl
  have hD : va_D Az [(h0, .inr (1, [.ref qa1, .int (iI 0)])), (qa1, .inl (cI, n0, .inl (mI (fun _ => 0))))] := hD.sub [0, 1] (by decide) rfl
  exact W.vret hx hb hr (fun t ht _ => ⟨rfl, ⟨_, ⟨qa1, rfl⟩, by rw [ht]; exact hP, hD⟩, hSz.F ht⟩) hSz.2.2 dX1_init_20 hlk
/-! X2_init -/
def rm_X2_init : Room := { frames := 1, cells := 0, slots := 0, locals := 12 }
set_option maxHeartbeats 8000000 in
set_option maxRecDepth 100000 in
theorem c_X2_init (l : Launch) (D : va_G) (cI cZ cJ : ClassId) {h0 sz : Nat} : Met l yX2_init wsX2_init rm_X2_init (PW D vwCl [(cI, .int), (cZ, .boolean), (cJ, .long)] [.ref h0] [(h0, .inr (2, [.int 0]))] sz) (QI D vwCl (fun w9 => w9 = [(h0, .inr (2, [.int (iI 0)]))]) (va_A [(h0, .inr (2, [.int 0]))] sz)) 0 0 (va_A [(h0, .inr (2, [.int 0]))] sz) := by
  refine Met.ofW (cc := cX2_init) (maxL := 1) (ret := none) (by decide) rfl ?_
  intro p e s m args below meth c s₁ B hml hv
  obtain ⟨hav, hsz, hP, hK, hD0⟩ := hv
  have hx := B.exec
  have hb := B.bytes
  have hr := B.returns
  have hts := atoms_spec (ws := wsX2_init) B.pre
  have hown : s.vm.findClass RX2 = some m.cls := findClass_of_methodNamed B.named
  have hlk := B.notSynchronized
  have hin : meth.name = "<init>" := (name_of_methodNamed B.named B.method).1
  have hoi : (Cond.methodLink RX2 1 objectInit).before args s = true := hts _ (List.mem_of_getElem? (i := 1) rfl)
  have hoj : (Cond.instanceMethod objectInit).before args s = true := hts _ (List.mem_of_getElem? (i := 2) rfl)
  have hok : (Cond.code objectInit ⟨#[0xb1]⟩ 1 none).before args s = true := hts _ (List.mem_of_getElem? (i := 3) rfl)
  subst hsz
  have hD := hD0.self (sz := s.heap.size)
  generalize hAe : va_A [(h0, .inr (2, [.int 0]))] s.heap.size = Az at hD ⊢
  have hA : ∀ q : Nat, s.heap.size ≤ q → Az q := fun q h => by rw [← hAe]; exact Or.inr h
  have hSz : va_S Az s.heap s.heap [] := va_S.rf
  have hl := lv_entry ([.ref h0]) (n := 1) (Nat.le_of_ble_eq_true rfl)
  rw [show entryFrame m args 1 = entryFrame m ([.ref h0] : List Value).toArray 1 from by rw [hav], lg_entry_eq]
  generalize (lg_sl ([.ref h0]) ++ List.replicate (1 - (lg_sl ([.ref h0])).length) Slot.unset).toArray = ls at hl ⊢
  have hl : lv_has ls 1 [(0, .ref h0)] := hl
  refine lv_aload_n hx hb dX2_init_0 rfl (lv_at hl 0 rfl) ?_
  refine W.objInit hx hb hown hoi hoj hok rfl (by rw [hml]; exact hl.1) rfl dX2_init_1 (Nat.le_of_ble_eq_true rfl) (Nat.le_of_ble_eq_true rfl) ?_
  refine W.eq (g2 := F0 m 4 ls []) rfl ?_
  have hP : va_P D vwCl [(h0, .inr (2, [.int (iI 0)]))] _ := hP.sub [0] rfl
  have hD : va_D Az [(h0, .inr (2, [.int (iI 0)]))] := hD.sub [0] (by decide) rfl
  exact W.vret hx hb hr (fun t ht _ => ⟨rfl, ⟨_, rfl, by rw [ht]; exact hP, hD⟩, hSz.F ht⟩) hSz.2.2 dX2_init_4 hlk
/-! X3_init -/
def rm_X3_init : Room := { frames := 1, cells := 4, slots := 2280, locals := 12 }
set_option maxHeartbeats 8000000 in
set_option maxRecDepth 100000 in
theorem c_X3_init (l : Launch) (D : va_G) (cI cZ cJ : ClassId) {h0 g0 sz : Nat} : Met l yX3_init wsX3_init rm_X3_init (PW D vwCl [(cI, .int), (cZ, .boolean), (cJ, .long)] [.ref h0, .ref g0] [(h0, .inr (3, [.null, .null, .null, .null, .null, .int 0, .int 0]))] sz) (QI D vwCl (fun w9 => ∃ qa1 qa2 qa3 qa4 : Nat, w9 = [(h0, .inr (3, [.ref g0, .ref qa1, .ref qa2, .ref qa3, .ref qa4, .int (iI 0), .int (iI 0)])), (qa1, .inl (cI, 1920, .inl (mI (fun _ => 0)))), (qa2, .inl (cI, 120, .inl (mI (fun _ => 0)))), (qa3, .inl (cI, 120, .inl (mI (fun _ => 0)))), (qa4, .inl (cZ, 120, .inl (mI (fun _ => 0))))]) (va_A [(h0, .inr (3, [.null, .null, .null, .null, .null, .int 0, .int 0]))] sz)) 4 2280 (va_A [(h0, .inr (3, [.null, .null, .null, .null, .null, .int 0, .int 0]))] sz) := by
  refine Met.ofW (cc := cX3_init) (maxL := 2) (ret := none) (by decide) rfl ?_
  intro p e s m args below meth c s₁ B hml hv
  obtain ⟨hav, hsz, hP, hK, hD0⟩ := hv
  have hx := B.exec
  have hb := B.bytes
  have hr := B.returns
  have hts := atoms_spec (ws := wsX3_init) B.pre
  have hown : s.vm.findClass RX3 = some m.cls := findClass_of_methodNamed B.named
  have hlk := B.notSynchronized
  have hin : meth.name = "<init>" := (name_of_methodNamed B.named B.method).1
  have hoi : (Cond.methodLink RX3 3 objectInit).before args s = true := hts _ (List.mem_of_getElem? (i := 1) rfl)
  have hoj : (Cond.instanceMethod objectInit).before args s = true := hts _ (List.mem_of_getElem? (i := 2) rfl)
  have hok : (Cond.code objectInit ⟨#[0xb1]⟩ 1 none).before args s = true := hts _ (List.mem_of_getElem? (i := 3) rfl)
  have hf9 : (Cond.fieldLink RX3 9 "KeywordMatcher$Keywords" "folding" "LKeywordMatcher$Folding;").before args s = true := hts _ (List.mem_of_getElem? (i := 4) rfl)
  have hiX3 : ∀ w ∈ wsX30, w ∈ wsX3_init := fun w h => List.mem_cons_of_mem _ (List.mem_append_right _ h)
  have harI : (Cond.arrayClass .int).before args s = true := hts _ (List.mem_of_getElem? (i := 5) rfl)
  have hf15 : (Cond.fieldLink RX3 15 "KeywordMatcher$Keywords" "bytes" "[I").before args s = true := hts _ (List.mem_of_getElem? (i := 6) rfl)
  have hf19 : (Cond.fieldLink RX3 19 "KeywordMatcher$Keywords" "lengths" "[I").before args s = true := hts _ (List.mem_of_getElem? (i := 7) rfl)
  have hf22 : (Cond.fieldLink RX3 22 "KeywordMatcher$Keywords" "weights" "[I").before args s = true := hts _ (List.mem_of_getElem? (i := 8) rfl)
  have harZ : (Cond.arrayClass .boolean).before args s = true := hts _ (List.mem_of_getElem? (i := 9) rfl)
  have hf25 : (Cond.fieldLink RX3 25 "KeywordMatcher$Keywords" "lives" "[Z").before args s = true := hts _ (List.mem_of_getElem? (i := 10) rfl)
  have hf29 : (Cond.fieldLink RX3 29 "KeywordMatcher$Keywords" "given" "I").before args s = true := hts _ (List.mem_of_getElem? (i := 11) rfl)
  have hf33 : (Cond.fieldLink RX3 33 "KeywordMatcher$Keywords" "alive" "I").before args s = true := hts _ (List.mem_of_getElem? (i := 12) rfl)
  subst hsz
  have hD := hD0.self (sz := s.heap.size)
  generalize hAe : va_A [(h0, .inr (3, [.null, .null, .null, .null, .null, .int 0, .int 0]))] s.heap.size = Az at hD ⊢
  have hA : ∀ q : Nat, s.heap.size ≤ q → Az q := fun q h => by rw [← hAe]; exact Or.inr h
  have hSz : va_S Az s.heap s.heap [] := va_S.rf
  have hl := lv_entry ([.ref h0, .ref g0]) (n := 2) (Nat.le_of_ble_eq_true rfl)
  rw [show entryFrame m args 2 = entryFrame m ([.ref h0, .ref g0] : List Value).toArray 2 from by rw [hav], lg_entry_eq]
  generalize (lg_sl ([.ref h0, .ref g0]) ++ List.replicate (2 - (lg_sl ([.ref h0, .ref g0])).length) Slot.unset).toArray = ls at hl ⊢
  have hl : lv_has ls 2 [(0, .ref h0), (1, .ref g0)] := hl
  refine lv_aload_n hx hb dX3_init_0 rfl (lv_at hl 0 rfl) ?_
  refine W.objInit hx hb hown hoi hoj hok rfl (by rw [hml]; exact hl.1) rfl dX3_init_1 (Nat.le_of_ble_eq_true rfl) (Nat.le_of_ble_eq_true rfl) ?_
  refine W.eq (g2 := F0 m 4 ls []) rfl ?_
  refine lv_aload_n hx hb dX3_init_4 rfl (lv_at hl 0 rfl) ?_
  refine lv_aload_n hx hb dX3_init_5 rfl (lv_at hl 1 rfl) ?_
  refine va_putF (ci := 3) (v := .ref g0) (ty := (.object "KeywordMatcher$Folding")) (C := RX3) (T := TX3) (N := 7) hx hb hts hiX3 tyX3 tyX3_ok nmX3 hown hK hP hD hSz 0 rfl rfl 0 (by decide) hf9 (fun _ h9 => h9) rfl hin rfl (by decide +kernel) rfl rfl (Nat.le_of_ble_eq_true rfl) dX3_init_6 (fun Hz lz hP hD hSz => ?_)
  have hP : va_P D vwCl [(h0, .inr (3, [.ref g0, .null, .null, .null, .null, .int 0, .int 0]))] Hz := hP
  have hD : va_D Az [(h0, .inr (3, [.ref g0, .null, .null, .null, .null, .int 0, .int 0]))] := hD
  refine lv_aload_n hx hb dX3_init_9 rfl (lv_at hl 0 rfl) ?_
  refine k_sipush (n := 1920) hx hb (by decide) dX3_init_10 ?_
  refine k_newa (atype := .int) (ty := .int) (x := 1920) (N' := 1920) (a0 := (1920, .inl (mI (fun _ => 0)))) hx hb harI rfl hK hP hD hSz hA 0 rfl (fun c d h1 h2 => Option.some.inj (h1.symm.trans h2)) arr0I rfl (Nat.le_of_ble_eq_true rfl) (Nat.le_of_ble_eq_true rfl) (Nat.le_of_ble_eq_true rfl) (Nat.le_of_ble_eq_true rfl) dX3_init_13 (fun qa1 Hz hP hD hSz => ?_)
  have hP : va_P D vwCl [(h0, .inr (3, [.ref g0, .null, .null, .null, .null, .int 0, .int 0])), (qa1, .inl (cI, 1920, .inl (mI (fun _ => 0))))] Hz := hP
  have hD : va_D Az [(h0, .inr (3, [.ref g0, .null, .null, .null, .null, .int 0, .int 0])), (qa1, .inl (cI, 1920, .inl (mI (fun _ => 0))))] := hD
  refine W.widen (k := 1) (n := 1920) (Nat.le_of_eq rfl) (Nat.le_of_eq rfl) ?_
  refine va_putF (ci := 3) (v := .ref qa1) (ty := (.array .int)) (C := RX3) (T := TX3) (N := 7) hx hb hts hiX3 tyX3 tyX3_ok nmX3 hown hK hP hD hSz 0 rfl rfl 1 (by decide) hf15 (fun _ h9 => h9) rfl hin rfl (by decide +kernel) rfl rfl (Nat.le_of_ble_eq_true rfl) dX3_init_15 (fun Hz lz hP hD hSz => ?_)
  have hP : va_P D vwCl [(h0, .inr (3, [.ref g0, .ref qa1, .null, .null, .null, .int 0, .int 0])), (qa1, .inl (cI, 1920, .inl (mI (fun _ => 0))))] Hz := hP
  have hD : va_D Az [(h0, .inr (3, [.ref g0, .ref qa1, .null, .null, .null, .int 0, .int 0])), (qa1, .inl (cI, 1920, .inl (mI (fun _ => 0))))] := hD
  refine lv_aload_n hx hb dX3_init_18 rfl (lv_at hl 0 rfl) ?_
  refine k_bipush (n := 120) hx hb (by decide) dX3_init_19 ?_
  refine k_newa (atype := .int) (ty := .int) (x := 120) (N' := 120) (a0 := (120, .inl (mI (fun _ => 0)))) hx hb harI rfl hK hP hD hSz hA 0 rfl (fun c d h1 h2 => Option.some.inj (h1.symm.trans h2)) arr0I rfl (Nat.le_of_ble_eq_true rfl) (Nat.le_of_ble_eq_true rfl) (Nat.le_of_ble_eq_true rfl) (Nat.le_of_ble_eq_true rfl) dX3_init_21 (fun qa2 Hz hP hD hSz => ?_)
  have hP : va_P D vwCl [(h0, .inr (3, [.ref g0, .ref qa1, .null, .null, .null, .int 0, .int 0])), (qa1, .inl (cI, 1920, .inl (mI (fun _ => 0)))), (qa2, .inl (cI, 120, .inl (mI (fun _ => 0))))] Hz := hP
  have hD : va_D Az [(h0, .inr (3, [.ref g0, .ref qa1, .null, .null, .null, .int 0, .int 0])), (qa1, .inl (cI, 1920, .inl (mI (fun _ => 0)))), (qa2, .inl (cI, 120, .inl (mI (fun _ => 0))))] := hD
  refine W.widen (k := 2) (n := 2040) (Nat.le_of_eq rfl) (Nat.le_of_eq rfl) ?_
  refine va_putF (ci := 3) (v := .ref qa2) (ty := (.array .int)) (C := RX3) (T := TX3) (N := 7) hx hb hts hiX3 tyX3 tyX3_ok nmX3 hown hK hP hD hSz 0 rfl rfl 2 (by decide) hf19 (fun _ h9 => h9) rfl hin rfl (by decide +kernel) rfl rfl (Nat.le_of_ble_eq_true rfl) dX3_init_23 (fun Hz lz hP hD hSz => ?_)
  have hP : va_P D vwCl [(h0, .inr (3, [.ref g0, .ref qa1, .ref qa2, .null, .null, .int 0, .int 0])), (qa1, .inl (cI, 1920, .inl (mI (fun _ => 0)))), (qa2, .inl (cI, 120, .inl (mI (fun _ => 0))))] Hz := hP
  have hD : va_D Az [(h0, .inr (3, [.ref g0, .ref qa1, .ref qa2, .null, .null, .int 0, .int 0])), (qa1, .inl (cI, 1920, .inl (mI (fun _ => 0)))), (qa2, .inl (cI, 120, .inl (mI (fun _ => 0))))] := hD
  refine lv_aload_n hx hb dX3_init_26 rfl (lv_at hl 0 rfl) ?_
  refine k_bipush (n := 120) hx hb (by decide) dX3_init_27 ?_
  refine k_newa (atype := .int) (ty := .int) (x := 120) (N' := 120) (a0 := (120, .inl (mI (fun _ => 0)))) hx hb harI rfl hK hP hD hSz hA 0 rfl (fun c d h1 h2 => Option.some.inj (h1.symm.trans h2)) arr0I rfl (Nat.le_of_ble_eq_true rfl) (Nat.le_of_ble_eq_true rfl) (Nat.le_of_ble_eq_true rfl) (Nat.le_of_ble_eq_true rfl) dX3_init_29 (fun qa3 Hz hP hD hSz => ?_)
  have hP : va_P D vwCl [(h0, .inr (3, [.ref g0, .ref qa1, .ref qa2, .null, .null, .int 0, .int 0])), (qa1, .inl (cI, 1920, .inl (mI (fun _ => 0)))), (qa2, .inl (cI, 120, .inl (mI (fun _ => 0)))), (qa3, .inl (cI, 120, .inl (mI (fun _ => 0))))] Hz := hP
  have hD : va_D Az [(h0, .inr (3, [.ref g0, .ref qa1, .ref qa2, .null, .null, .int 0, .int 0])), (qa1, .inl (cI, 1920, .inl (mI (fun _ => 0)))), (qa2, .inl (cI, 120, .inl (mI (fun _ => 0)))), (qa3, .inl (cI, 120, .inl (mI (fun _ => 0))))] := hD
  refine W.widen (k := 3) (n := 2160) (Nat.le_of_eq rfl) (Nat.le_of_eq rfl) ?_
  refine va_putF (ci := 3) (v := .ref qa3) (ty := (.array .int)) (C := RX3) (T := TX3) (N := 7) hx hb hts hiX3 tyX3 tyX3_ok nmX3 hown hK hP hD hSz 0 rfl rfl 3 (by decide) hf22 (fun _ h9 => h9) rfl hin rfl (by decide +kernel) rfl rfl (Nat.le_of_ble_eq_true rfl) dX3_init_31 (fun Hz lz hP hD hSz => ?_)
  have hP : va_P D vwCl [(h0, .inr (3, [.ref g0, .ref qa1, .ref qa2, .ref qa3, .null, .int 0, .int 0])), (qa1, .inl (cI, 1920, .inl (mI (fun _ => 0)))), (qa2, .inl (cI, 120, .inl (mI (fun _ => 0)))), (qa3, .inl (cI, 120, .inl (mI (fun _ => 0))))] Hz := hP
  have hD : va_D Az [(h0, .inr (3, [.ref g0, .ref qa1, .ref qa2, .ref qa3, .null, .int 0, .int 0])), (qa1, .inl (cI, 1920, .inl (mI (fun _ => 0)))), (qa2, .inl (cI, 120, .inl (mI (fun _ => 0)))), (qa3, .inl (cI, 120, .inl (mI (fun _ => 0))))] := hD
  refine lv_aload_n hx hb dX3_init_34 rfl (lv_at hl 0 rfl) ?_
  refine k_bipush (n := 120) hx hb (by decide) dX3_init_35 ?_
  refine k_newa (atype := .boolean) (ty := .boolean) (x := 120) (N' := 120) (a0 := (120, .inl (mI (fun _ => 0)))) hx hb harZ rfl hK hP hD hSz hA 1 rfl (fun c d h1 h2 => Option.some.inj (h1.symm.trans h2)) arr0Z rfl (Nat.le_of_ble_eq_true rfl) (Nat.le_of_ble_eq_true rfl) (Nat.le_of_ble_eq_true rfl) (Nat.le_of_ble_eq_true rfl) dX3_init_37 (fun qa4 Hz hP hD hSz => ?_)
  have hP : va_P D vwCl [(h0, .inr (3, [.ref g0, .ref qa1, .ref qa2, .ref qa3, .null, .int 0, .int 0])), (qa1, .inl (cI, 1920, .inl (mI (fun _ => 0)))), (qa2, .inl (cI, 120, .inl (mI (fun _ => 0)))), (qa3, .inl (cI, 120, .inl (mI (fun _ => 0)))), (qa4, .inl (cZ, 120, .inl (mI (fun _ => 0))))] Hz := hP
  have hD : va_D Az [(h0, .inr (3, [.ref g0, .ref qa1, .ref qa2, .ref qa3, .null, .int 0, .int 0])), (qa1, .inl (cI, 1920, .inl (mI (fun _ => 0)))), (qa2, .inl (cI, 120, .inl (mI (fun _ => 0)))), (qa3, .inl (cI, 120, .inl (mI (fun _ => 0)))), (qa4, .inl (cZ, 120, .inl (mI (fun _ => 0))))] := hD
  refine W.widen (k := 4) (n := 2280) (Nat.le_of_eq rfl) (Nat.le_of_eq rfl) ?_
  refine va_putF (ci := 3) (v := .ref qa4) (ty := (.array .boolean)) (C := RX3) (T := TX3) (N := 7) hx hb hts hiX3 tyX3 tyX3_ok nmX3 hown hK hP hD hSz 0 rfl rfl 4 (by decide) hf25 (fun _ h9 => h9) rfl hin rfl (by decide +kernel) rfl rfl (Nat.le_of_ble_eq_true rfl) dX3_init_39 (fun Hz lz hP hD hSz => ?_)
  have hP : va_P D vwCl [(h0, .inr (3, [.ref g0, .ref qa1, .ref qa2, .ref qa3, .ref qa4, .int 0, .int 0])), (qa1, .inl (cI, 1920, .inl (mI (fun _ => 0)))), (qa2, .inl (cI, 120, .inl (mI (fun _ => 0)))), (qa3, .inl (cI, 120, .inl (mI (fun _ => 0)))), (qa4, .inl (cZ, 120, .inl (mI (fun _ => 0))))] Hz := hP
  have hD : va_D Az [(h0, .inr (3, [.ref g0, .ref qa1, .ref qa2, .ref qa3, .ref qa4, .int 0, .int 0])), (qa1, .inl (cI, 1920, .inl (mI (fun _ => 0)))), (qa2, .inl (cI, 120, .inl (mI (fun _ => 0)))), (qa3, .inl (cI, 120, .inl (mI (fun _ => 0)))), (qa4, .inl (cZ, 120, .inl (mI (fun _ => 0))))] := hD
  refine lv_aload_n hx hb dX3_init_42 rfl (lv_at hl 0 rfl) ?_
  refine k_iconst (n := 0) hx hb dX3_init_43 ?_
  refine va_put (ci := 3) (v := .int (iI 0)) (ty := .int) (C := RX3) (T := TX3) (N := 7) hx hb hts hiX3 tyX3 tyX3_ok nmX3 hown hK hP hD hSz 0 rfl rfl 5 (by decide) hf29 (fun _ h9 => h9) rfl (by decide +kernel) rfl rfl (Nat.le_of_ble_eq_true rfl) dX3_init_44 (fun Hz lz hP hD hSz => ?_)
  have hP : va_P D vwCl [(h0, .inr (3, [.ref g0, .ref qa1, .ref qa2, .ref qa3, .ref qa4, .int (iI 0), .int 0])), (qa1, .inl (cI, 1920, .inl (mI (fun _ => 0)))), (qa2, .inl (cI, 120, .inl (mI (fun _ => 0)))), (qa3, .inl (cI, 120, .inl (mI (fun _ => 0)))), (qa4, .inl (cZ, 120, .inl (mI (fun _ => 0))))] Hz := hP
  have hD : va_D Az [(h0, .inr (3, [.ref g0, .ref qa1, .ref qa2, .ref qa3, .ref qa4, .int (iI 0), .int 0])), (qa1, .inl (cI, 1920, .inl (mI (fun _ => 0)))), (qa2, .inl (cI, 120, .inl (mI (fun _ => 0)))), (qa3, .inl (cI, 120, .inl (mI (fun _ => 0)))), (qa4, .inl (cZ, 120, .inl (mI (fun _ => 0))))] := hD
  refine lv_aload_n hx hb dX3_init_47 rfl (lv_at hl 0 rfl) ?_
  refine k_iconst (n := 0) hx hb dX3_init_48 ?_
  refine va_put (ci := 3) (v := .int (iI 0)) (ty := .int) (C := RX3) (T := TX3) (N := 7) hx hb hts hiX3 tyX3 tyX3_ok nmX3 hown hK hP hD hSz 0 rfl rfl 6 (by decide) hf33 (fun _ h9 => h9) rfl (by decide +kernel) rfl rfl (Nat.le_of_ble_eq_true rfl) dX3_init_49 (fun Hz lz hP hD hSz => ?_)
  have hP : va_P D vwCl [(h0, .inr (3, [.ref g0, .ref qa1, .ref qa2, .ref qa3, .ref qa4, .int (iI 0), .int (iI 0)])), (qa1, .inl (cI, 1920, .inl (mI (fun _ => 0)))), (qa2, .inl (cI, 120, .inl (mI (fun _ => 0)))), (qa3, .inl (cI, 120, .inl (mI (fun _ => 0)))), (qa4, .inl (cZ, 120, .inl (mI (fun _ => 0))))] Hz := hP
  have hD : va_D Az [(h0, .inr (3, [.ref g0, .ref qa1, .ref qa2, .ref qa3, .ref qa4, .int (iI 0), .int (iI 0)])), (qa1, .inl (cI, 1920, .inl (mI (fun _ => 0)))), (qa2, .inl (cI, 120, .inl (mI (fun _ => 0)))), (qa3, .inl (cI, 120, .inl (mI (fun _ => 0)))), (qa4, .inl (cZ, 120, .inl (mI (fun _ => 0))))] := hD
  have hP : va_P D vwCl [(h0, .inr (3, [.ref g0, .ref qa1, .ref qa2, .ref qa3, .ref qa4, .int (iI 0), .int (iI 0)])), (qa1, .inl (cI, 1920, .inl (mI (fun _ => 0)))), (qa2, .inl (cI, 120, .inl (mI (fun _ => 0)))), (qa3, .inl (cI, 120, .inl (mI (fun _ => 0)))), (qa4, .inl (cZ, 120, .inl (mI (fun _ => 0))))] _ := hP.sub [0, 1, 2, 3, 4] rfl
  have hD : va_D Az [(h0, .inr (3, [.ref g0, .ref qa1, .ref qa2, .ref qa3, .ref qa4, .int (iI 0), .int (iI 0)])), (qa1, .inl (cI, 1920, .inl (mI (fun _ => 0)))), (qa2, .inl (cI, 120, .inl (mI (fun _ => 0)))), (qa3, .inl (cI, 120, .inl (mI (fun _ => 0)))), (qa4, .inl (cZ, 120, .inl (mI (fun _ => 0))))] := hD.sub [0, 1, 2, 3, 4] (by decide) rfl
  exact W.vret hx hb hr (fun t ht _ => ⟨rfl, ⟨_, ⟨qa1, qa2, qa3, qa4, rfl⟩, by rw [ht]; exact hP, hD⟩, hSz.F ht⟩) hSz.2.2 dX3_init_52 hlk
/-! X4_init -/
def rm_X4_init (n0 : Nat) : Room := { frames := 1, cells := 2, slots := (n0 + n0), locals := 24 }
set_option maxHeartbeats 8000000 in
set_option maxRecDepth 100000 in
theorem c_X4_init (l : Launch) (D : va_G) (cI cZ cJ : ClassId) {h0 sz : Nat} {n0 : Nat} (hn0 : n0 ≤ 100000) : Met l yX4_init wsX4_init (rm_X4_init n0) (PW D vwCl [(cI, .int), (cZ, .boolean), (cJ, .long)] [.ref h0, .int (iI ((n0 : Nat) : Int))] [(h0, .inr (4, [.null, .null, .int 0]))] sz) (QI D vwCl (fun w9 => ∃ qa1 qa2 : Nat, w9 = [(h0, .inr (4, [.ref qa1, .ref qa2, .int (iI 0)])), (qa1, .inl (cI, n0, .inl (mI (fun _ => 0)))), (qa2, .inl (cI, n0, .inl (mI (fun _ => 0))))]) (va_A [(h0, .inr (4, [.null, .null, .int 0]))] sz)) 2 (n0 + n0) (va_A [(h0, .inr (4, [.null, .null, .int 0]))] sz) := by
  refine Met.ofW (cc := cX4_init) (maxL := 2) (ret := none) (by decide) rfl ?_
  intro p e s m args below meth c s₁ B hml hv
  obtain ⟨hav, hsz, hP, hK, hD0⟩ := hv
  have hx := B.exec
  have hb := B.bytes
  have hr := B.returns
  have hts := atoms_spec (ws := wsX4_init) B.pre
  have hown : s.vm.findClass RX4 = some m.cls := findClass_of_methodNamed B.named
  have hlk := B.notSynchronized
  have hin : meth.name = "<init>" := (name_of_methodNamed B.named B.method).1
  have hoi : (Cond.methodLink RX4 3 objectInit).before args s = true := hts _ (List.mem_of_getElem? (i := 1) rfl)
  have hoj : (Cond.instanceMethod objectInit).before args s = true := hts _ (List.mem_of_getElem? (i := 2) rfl)
  have hok : (Cond.code objectInit ⟨#[0xb1]⟩ 1 none).before args s = true := hts _ (List.mem_of_getElem? (i := 3) rfl)
  have hm9 : (Cond.methodLink RX4 9 Lib.Math.max.name).before args s = true := hts _ (List.mem_of_getElem? (i := 4) rfl)
  have hst : (Cond.static Lib.Math.max.name).before args s = true := hts _ (List.mem_of_getElem? (i := 5) rfl)
  have hin_M : (Cond.initialized "java/lang/Math").before args s = true := hts _ (List.mem_of_getElem? (i := 6) rfl)
  have hcd : (Cond.code Lib.Math.max.name Lib.Math.max.code 2 (some .int)).before args s = true := hts _ (List.mem_of_getElem? (i := 7) rfl)
  have harI : (Cond.arrayClass .int).before args s = true := hts _ (List.mem_of_getElem? (i := 8) rfl)
  have hf15 : (Cond.fieldLink RX4 15 "KeywordMatcher$MatchList" "positions" "[I").before args s = true := hts _ (List.mem_of_getElem? (i := 9) rfl)
  have hiX4 : ∀ w ∈ wsX40, w ∈ wsX4_init := fun w h => List.mem_cons_of_mem _ (List.mem_append_right _ h)
  have hf21 : (Cond.fieldLink RX4 21 "KeywordMatcher$MatchList" "numbers" "[I").before args s = true := hts _ (List.mem_of_getElem? (i := 10) rfl)
  have hf24 : (Cond.fieldLink RX4 24 "KeywordMatcher$MatchList" "size" "I").before args s = true := hts _ (List.mem_of_getElem? (i := 11) rfl)
  subst hsz
  have hD := hD0.self (sz := s.heap.size)
  generalize hAe : va_A [(h0, .inr (4, [.null, .null, .int 0]))] s.heap.size = Az at hD ⊢
  have hA : ∀ q : Nat, s.heap.size ≤ q → Az q := fun q h => by rw [← hAe]; exact Or.inr h
  have hSz : va_S Az s.heap s.heap [] := va_S.rf
  have hcr : cR ((n0 : Nat) : Int) (cR 0 (some ())) = some () := by rw [cR_in ⟨by omega, by omega⟩, cR_in ⟨by omega, by omega⟩]
  have hmx : iMax ((n0 : Nat) : Int) 0 = ((n0 : Nat) : Int) := by unfold iMax; split <;> omega
  have hl := lv_entry ([.ref h0, .int (iI ((n0 : Nat) : Int))]) (n := 2) (Nat.le_of_ble_eq_true rfl)
  rw [show entryFrame m args 2 = entryFrame m ([.ref h0, .int (iI ((n0 : Nat) : Int))] : List Value).toArray 2 from by rw [hav], lg_entry_eq]
  generalize (lg_sl ([.ref h0, .int (iI ((n0 : Nat) : Int))]) ++ List.replicate (2 - (lg_sl ([.ref h0, .int (iI ((n0 : Nat) : Int))])).length) Slot.unset).toArray = ls at hl ⊢
  have hl : lv_has ls 2 [(0, .ref h0), (1, .int (iI ((n0 : Nat) : Int)))] := hl
  refine lv_aload_n hx hb dX4_init_0 rfl (lv_at hl 0 rfl) ?_
  refine W.objInit hx hb hown hoi hoj hok rfl (by rw [hml]; exact hl.1) rfl dX4_init_1 (Nat.le_of_ble_eq_true rfl) (Nat.le_of_ble_eq_true rfl) ?_
  refine W.eq (g2 := F0 m 4 ls []) rfl ?_
  refine lv_aload_n hx hb dX4_init_4 rfl (lv_at hl 0 rfl) ?_
  refine lv_iload_n hx hb dX4_init_5 rfl (lv_at hl 1 rfl) ?_
  refine k_iconst (n := 0) hx hb dX4_init_6 ?_
  refine k_mmax (A := some ()) (r := ()) hx hb (hml.trans hl.1.symm) hown hm9 hst hin_M hcd (Nat.le_of_ble_eq_true rfl) (Nat.le_of_ble_eq_true rfl) (Nat.le_of_ble_eq_true rfl) (by first | exact Nat.zero_le _ | (show _ ≤ _; simp [rm_X4_init, headSpec]; try omega)) hcr dX4_init_7 (fun _ => ?_)
  rw [hmx]
  refine k_newa (atype := .int) (ty := .int) (x := ((n0 : Nat) : Int)) (N' := n0) (a0 := (n0, .inl (mI (fun _ => 0)))) hx hb harI rfl hK hP hD hSz hA 0 rfl (fun c d h1 h2 => Option.some.inj (h1.symm.trans h2)) arr0I rfl (by omega) (by show n0 * 4 ≤ 536870912; omega) (Nat.le_of_ble_eq_true rfl) (by show _ ≤ _; simp [rm_X4_init, headSpec]; try omega) dX4_init_10 (fun qa1 Hz hP hD hSz => ?_)
  have hP : va_P D vwCl [(h0, .inr (4, [.null, .null, .int 0])), (qa1, .inl (cI, n0, .inl (mI (fun _ => 0))))] Hz := hP
  have hD : va_D Az [(h0, .inr (4, [.null, .null, .int 0])), (qa1, .inl (cI, n0, .inl (mI (fun _ => 0))))] := hD
  refine W.widen (k := 1) (n := n0) (by omega) (by omega) ?_
  refine va_putF (ci := 4) (v := .ref qa1) (ty := (.array .int)) (C := RX4) (T := TX4) (N := 3) hx hb hts hiX4 tyX4 tyX4_ok nmX4 hown hK hP hD hSz 0 rfl rfl 0 (by decide) hf15 (fun _ h9 => h9) rfl hin rfl (by decide +kernel) rfl rfl (Nat.le_of_ble_eq_true rfl) dX4_init_12 (fun Hz lz hP hD hSz => ?_)
  have hP : va_P D vwCl [(h0, .inr (4, [.ref qa1, .null, .int 0])), (qa1, .inl (cI, n0, .inl (mI (fun _ => 0))))] Hz := hP
  have hD : va_D Az [(h0, .inr (4, [.ref qa1, .null, .int 0])), (qa1, .inl (cI, n0, .inl (mI (fun _ => 0))))] := hD
  refine lv_aload_n hx hb dX4_init_15 rfl (lv_at hl 0 rfl) ?_
  refine lv_iload_n hx hb dX4_init_16 rfl (lv_at hl 1 rfl) ?_
  refine k_iconst (n := 0) hx hb dX4_init_17 ?_
  refine k_mmax (A := some ()) (r := ()) hx hb (hml.trans hl.1.symm) hown hm9 hst hin_M hcd (Nat.le_of_ble_eq_true rfl) (Nat.le_of_ble_eq_true rfl) (Nat.le_of_ble_eq_true rfl) (by first | exact Nat.zero_le _ | (show _ ≤ _; simp [rm_X4_init, headSpec]; try omega)) hcr dX4_init_18 (fun _ => ?_)
  rw [hmx]
  refine k_newa (atype := .int) (ty := .int) (x := ((n0 : Nat) : Int)) (N' := n0) (a0 := (n0, .inl (mI (fun _ => 0)))) hx hb harI rfl hK hP hD hSz hA 0 rfl (fun c d h1 h2 => Option.some.inj (h1.symm.trans h2)) arr0I rfl (by omega) (by show n0 * 4 ≤ 536870912; omega) (Nat.le_of_ble_eq_true rfl) (by show _ ≤ _; simp [rm_X4_init, headSpec]; try omega) dX4_init_21 (fun qa2 Hz hP hD hSz => ?_)
  have hP : va_P D vwCl [(h0, .inr (4, [.ref qa1, .null, .int 0])), (qa1, .inl (cI, n0, .inl (mI (fun _ => 0)))), (qa2, .inl (cI, n0, .inl (mI (fun _ => 0))))] Hz := hP
  have hD : va_D Az [(h0, .inr (4, [.ref qa1, .null, .int 0])), (qa1, .inl (cI, n0, .inl (mI (fun _ => 0)))), (qa2, .inl (cI, n0, .inl (mI (fun _ => 0))))] := hD
  refine W.widen (k := 2) (n := (n0 + n0)) (by omega) (by omega) ?_
  refine va_putF (ci := 4) (v := .ref qa2) (ty := (.array .int)) (C := RX4) (T := TX4) (N := 3) hx hb hts hiX4 tyX4 tyX4_ok nmX4 hown hK hP hD hSz 0 rfl rfl 1 (by decide) hf21 (fun _ h9 => h9) rfl hin rfl (by decide +kernel) rfl rfl (Nat.le_of_ble_eq_true rfl) dX4_init_23 (fun Hz lz hP hD hSz => ?_)
  have hP : va_P D vwCl [(h0, .inr (4, [.ref qa1, .ref qa2, .int 0])), (qa1, .inl (cI, n0, .inl (mI (fun _ => 0)))), (qa2, .inl (cI, n0, .inl (mI (fun _ => 0))))] Hz := hP
  have hD : va_D Az [(h0, .inr (4, [.ref qa1, .ref qa2, .int 0])), (qa1, .inl (cI, n0, .inl (mI (fun _ => 0)))), (qa2, .inl (cI, n0, .inl (mI (fun _ => 0))))] := hD
  refine lv_aload_n hx hb dX4_init_26 rfl (lv_at hl 0 rfl) ?_
  refine k_iconst (n := 0) hx hb dX4_init_27 ?_
  refine va_put (ci := 4) (v := .int (iI 0)) (ty := .int) (C := RX4) (T := TX4) (N := 3) hx hb hts hiX4 tyX4 tyX4_ok nmX4 hown hK hP hD hSz 0 rfl rfl 2 (by decide) hf24 (fun _ h9 => h9) rfl (by decide +kernel) rfl rfl (Nat.le_of_ble_eq_true rfl) dX4_init_28 (fun Hz lz hP hD hSz => ?_)
  have hP : va_P D vwCl [(h0, .inr (4, [.ref qa1, .ref qa2, .int (iI 0)])), (qa1, .inl (cI, n0, .inl (mI (fun _ => 0)))), (qa2, .inl (cI, n0, .inl (mI (fun _ => 0))))] Hz := hP
  have hD : va_D Az [(h0, .inr (4, [.ref qa1, .ref qa2, .int (iI 0)])), (qa1, .inl (cI, n0, .inl (mI (fun _ => 0)))), (qa2, .inl (cI, n0, .inl (mI (fun _ => 0))))] := hD
  have hP : va_P D vwCl [(h0, .inr (4, [.ref qa1, .ref qa2, .int (iI 0)])), (qa1, .inl (cI, n0, .inl (mI (fun _ => 0)))), (qa2, .inl (cI, n0, .inl (mI (fun _ => 0))))] _ := hP.sub [0, 1, 2] rfl
  have hD : va_D Az [(h0, .inr (4, [.ref qa1, .ref qa2, .int (iI 0)])), (qa1, .inl (cI, n0, .inl (mI (fun _ => 0)))), (qa2, .inl (cI, n0, .inl (mI (fun _ => 0))))] := hD.sub [0, 1, 2] (by decide) rfl
  exact W.vret hx hb hr (fun t ht _ => ⟨rfl, ⟨_, ⟨qa1, qa2, rfl⟩, by rw [ht]; exact hP, hD⟩, hSz.F ht⟩) hSz.2.2 dX4_init_31 hlk
/-! X5_init -/
def rm_X5_init : Room := { frames := 1, cells := 1, slots := 1200, locals := 12 }
set_option maxHeartbeats 8000000 in
set_option maxRecDepth 100000 in
theorem c_X5_init (l : Launch) (D : va_G) (cI cZ cJ : ClassId) {h0 sz : Nat} : Met l yX5_init wsX5_init rm_X5_init (PW D vwCl [(cI, .int), (cZ, .boolean), (cJ, .long)] [.ref h0] [(h0, .inr (5, [.null]))] sz) (QI D vwCl (fun w9 => ∃ qa1 : Nat, w9 = [(h0, .inr (5, [.ref qa1])), (qa1, .inl (cJ, 1200, .inr (.inl (mL (fun _ => 0)))))]) (va_A [(h0, .inr (5, [.null]))] sz)) 1 1200 (va_A [(h0, .inr (5, [.null]))] sz) := by
  refine Met.ofW (cc := cX5_init) (maxL := 1) (ret := none) (by decide) rfl ?_
  intro p e s m args below meth c s₁ B hml hv
  obtain ⟨hav, hsz, hP, hK, hD0⟩ := hv
  have hx := B.exec
  have hb := B.bytes
  have hr := B.returns
  have hts := atoms_spec (ws := wsX5_init) B.pre
  have hown : s.vm.findClass RX5 = some m.cls := findClass_of_methodNamed B.named
  have hlk := B.notSynchronized
  have hin : meth.name = "<init>" := (name_of_methodNamed B.named B.method).1
  have hoi : (Cond.methodLink RX5 3 objectInit).before args s = true := hts _ (List.mem_of_getElem? (i := 1) rfl)
  have hoj : (Cond.instanceMethod objectInit).before args s = true := hts _ (List.mem_of_getElem? (i := 2) rfl)
  have hok : (Cond.code objectInit ⟨#[0xb1]⟩ 1 none).before args s = true := hts _ (List.mem_of_getElem? (i := 3) rfl)
  have harJ : (Cond.arrayClass .long).before args s = true := hts _ (List.mem_of_getElem? (i := 4) rfl)
  have hf9 : (Cond.fieldLink RX5 9 "KeywordMatcher$MatchTable" "words" "[J").before args s = true := hts _ (List.mem_of_getElem? (i := 5) rfl)
  have hiX5 : ∀ w ∈ wsX50, w ∈ wsX5_init := fun w h => List.mem_cons_of_mem _ (List.mem_append_right _ h)
  subst hsz
  have hD := hD0.self (sz := s.heap.size)
  generalize hAe : va_A [(h0, .inr (5, [.null]))] s.heap.size = Az at hD ⊢
  have hA : ∀ q : Nat, s.heap.size ≤ q → Az q := fun q h => by rw [← hAe]; exact Or.inr h
  have hSz : va_S Az s.heap s.heap [] := va_S.rf
  have hl := lv_entry ([.ref h0]) (n := 1) (Nat.le_of_ble_eq_true rfl)
  rw [show entryFrame m args 1 = entryFrame m ([.ref h0] : List Value).toArray 1 from by rw [hav], lg_entry_eq]
  generalize (lg_sl ([.ref h0]) ++ List.replicate (1 - (lg_sl ([.ref h0])).length) Slot.unset).toArray = ls at hl ⊢
  have hl : lv_has ls 1 [(0, .ref h0)] := hl
  refine lv_aload_n hx hb dX5_init_0 rfl (lv_at hl 0 rfl) ?_
  refine W.objInit hx hb hown hoi hoj hok rfl (by rw [hml]; exact hl.1) rfl dX5_init_1 (Nat.le_of_ble_eq_true rfl) (Nat.le_of_ble_eq_true rfl) ?_
  refine W.eq (g2 := F0 m 4 ls []) rfl ?_
  refine lv_aload_n hx hb dX5_init_4 rfl (lv_at hl 0 rfl) ?_
  refine k_sipush (n := 1200) hx hb (by decide) dX5_init_5 ?_
  refine k_newa (atype := .long) (ty := .long) (x := 1200) (N' := 1200) (a0 := (1200, .inr (.inl (mL (fun _ => 0))))) hx hb harJ rfl hK hP hD hSz hA 2 rfl (fun c d h1 h2 => Option.some.inj (h1.symm.trans h2)) arr0J rfl (Nat.le_of_ble_eq_true rfl) (Nat.le_of_ble_eq_true rfl) (Nat.le_of_ble_eq_true rfl) (Nat.le_of_ble_eq_true rfl) dX5_init_8 (fun qa1 Hz hP hD hSz => ?_)
  have hP : va_P D vwCl [(h0, .inr (5, [.null])), (qa1, .inl (cJ, 1200, .inr (.inl (mL (fun _ => 0)))))] Hz := hP
  have hD : va_D Az [(h0, .inr (5, [.null])), (qa1, .inl (cJ, 1200, .inr (.inl (mL (fun _ => 0)))))] := hD
  refine W.widen (k := 1) (n := 1200) (Nat.le_of_eq rfl) (Nat.le_of_eq rfl) ?_
  refine va_putF (ci := 5) (v := .ref qa1) (ty := (.array .long)) (C := RX5) (T := TX5) (N := 1) hx hb hts hiX5 tyX5 tyX5_ok nmX5 hown hK hP hD hSz 0 rfl rfl 0 (by decide) hf9 (fun _ h9 => h9) rfl hin rfl (by decide +kernel) rfl rfl (Nat.le_of_ble_eq_true rfl) dX5_init_10 (fun Hz lz hP hD hSz => ?_)
  have hP : va_P D vwCl [(h0, .inr (5, [.ref qa1])), (qa1, .inl (cJ, 1200, .inr (.inl (mL (fun _ => 0)))))] Hz := hP
  have hD : va_D Az [(h0, .inr (5, [.ref qa1])), (qa1, .inl (cJ, 1200, .inr (.inl (mL (fun _ => 0)))))] := hD
  have hP : va_P D vwCl [(h0, .inr (5, [.ref qa1])), (qa1, .inl (cJ, 1200, .inr (.inl (mL (fun _ => 0)))))] _ := hP.sub [0, 1] rfl
  have hD : va_D Az [(h0, .inr (5, [.ref qa1])), (qa1, .inl (cJ, 1200, .inr (.inl (mL (fun _ => 0)))))] := hD.sub [0, 1] (by decide) rfl
  exact W.vret hx hb hr (fun t ht _ => ⟨rfl, ⟨_, ⟨qa1, rfl⟩, by rw [ht]; exact hP, hD⟩, hSz.F ht⟩) hSz.2.2 dX5_init_13 hlk
/-! X6_init -/
def rm_X6_init : Room := { frames := 2, cells := 7, slots := 2964, locals := 45 }
set_option maxHeartbeats 8000000 in
set_option maxRecDepth 100000 in
theorem c_X6_init (l : Launch) (D : va_G) (cI cZ cJ : ClassId) {h0 g0 sz : Nat} : Met l yX6_init wsX6_init rm_X6_init (PW D vwCl [(cI, .int), (cZ, .boolean), (cJ, .long)] [.ref h0, .ref g0] [(h0, .inr (6, [.null, .null, .null, .null, .null, .null, .int 0, .int 0]))] sz) (QI D vwCl (fun w9 => ∃ qa1 qa2 qa3 qo4 qa5 qo6 qa7 : Nat, w9 = [(h0, .inr (6, [.ref g0, .ref qa1, .ref qa2, .ref qa3, .ref qo4, .ref qo6, .int (iI 0), .int (iI 0)])), (qa1, .inl (cI, 40, .inl (mI (fun _ => 0)))), (qa2, .inl (cI, 40, .inl (mI (fun _ => 0)))), (qa3, .inl (cI, 1600, .inl (mI (fun _ => 0)))), (qo4, .inr (1, [.ref qa5, .int (iI 0)])), (qa5, .inl (cI, 640, .inl (mI (fun _ => 0)))), (qo6, .inr (1, [.ref qa7, .int (iI 0)])), (qa7, .inl (cI, 640, .inl (mI (fun _ => 0))))]) (va_A [(h0, .inr (6, [.null, .null, .null, .null, .null, .null, .int 0, .int 0]))] sz)) 7 2964 (va_A [(h0, .inr (6, [.null, .null, .null, .null, .null, .null, .int 0, .int 0]))] sz) := by
  refine Met.ofW (cc := cX6_init) (maxL := 2) (ret := none) (by decide) rfl ?_
  intro p e s m args below meth c s₁ B hml hv
  obtain ⟨hav, hsz, hP, hK, hD0⟩ := hv
  have hx := B.exec
  have hb := B.bytes
  have hr := B.returns
  have hts := atoms_spec (ws := wsX6_init) B.pre
  have hown : s.vm.findClass RX6 = some m.cls := findClass_of_methodNamed B.named
  have hlk := B.notSynchronized
  have hin : meth.name = "<init>" := (name_of_methodNamed B.named B.method).1
  have hoi : (Cond.methodLink RX6 3 objectInit).before args s = true := hts _ (List.mem_of_getElem? (i := 1) rfl)
  have hoj : (Cond.instanceMethod objectInit).before args s = true := hts _ (List.mem_of_getElem? (i := 2) rfl)
  have hok : (Cond.code objectInit ⟨#[0xb1]⟩ 1 none).before args s = true := hts _ (List.mem_of_getElem? (i := 3) rfl)
  have hf9 : (Cond.fieldLink RX6 9 "KeywordMatcher$Superstring" "folding" "LKeywordMatcher$Folding;").before args s = true := hts _ (List.mem_of_getElem? (i := 4) rfl)
  have hiX6 : ∀ w ∈ wsX60, w ∈ wsX6_init := fun w h => List.mem_cons_of_mem _ (List.mem_append_left _ (List.mem_append_right _ h))
  have harI : (Cond.arrayClass .int).before args s = true := hts _ (List.mem_of_getElem? (i := 5) rfl)
  have hf15 : (Cond.fieldLink RX6 15 "KeywordMatcher$Superstring" "starts" "[I").before args s = true := hts _ (List.mem_of_getElem? (i := 6) rfl)
  have hf19 : (Cond.fieldLink RX6 19 "KeywordMatcher$Superstring" "lengths" "[I").before args s = true := hts _ (List.mem_of_getElem? (i := 7) rfl)
  have hf22 : (Cond.fieldLink RX6 22 "KeywordMatcher$Superstring" "overlaps" "[I").before args s = true := hts _ (List.mem_of_getElem? (i := 8) rfl)
  have hcl25 : (Cond.classLink RX6 25 RX1).before args s = true := hts _ (List.mem_of_getElem? (i := 9) rfl)
  have hinsX1 : (Cond.instantiable RX1 2).before args s = true := hts _ (List.mem_of_getElem? (i := 10) rfl)
  have hiniX1 : (Cond.initialized RX1).before args s = true := hts _ (List.mem_of_getElem? (i := 11) rfl)
  have hiX1 : ∀ w ∈ wsX10, w ∈ wsX6_init := fun w h => List.mem_cons_of_mem _ (List.mem_append_right _ h)
  have himX1 : (Cond.instanceMethod yX1_init).before args s = true := hts _ (List.mem_of_getElem? (i := 17) rfl)
  have hmi27 : (Cond.methodLink RX6 27 yX1_init).before args s = true := hts _ (List.mem_of_getElem? (i := 16) rfl)
  have hf30 : (Cond.fieldLink RX6 30 "KeywordMatcher$Superstring" "area" "LKeywordMatcher$ByteRow;").before args s = true := hts _ (List.mem_of_getElem? (i := 12) rfl)
  have hf34 : (Cond.fieldLink RX6 34 "KeywordMatcher$Superstring" "spare" "LKeywordMatcher$ByteRow;").before args s = true := hts _ (List.mem_of_getElem? (i := 13) rfl)
  have hf37 : (Cond.fieldLink RX6 37 "KeywordMatcher$Superstring" "slots" "I").before args s = true := hts _ (List.mem_of_getElem? (i := 14) rfl)
  have hf41 : (Cond.fieldLink RX6 41 "KeywordMatcher$Superstring" "built" "Z").before args s = true := hts _ (List.mem_of_getElem? (i := 15) rfl)
  subst hsz
  have hD := hD0.self (sz := s.heap.size)
  generalize hAe : va_A [(h0, .inr (6, [.null, .null, .null, .null, .null, .null, .int 0, .int 0]))] s.heap.size = Az at hD ⊢
  have hA : ∀ q : Nat, s.heap.size ≤ q → Az q := fun q h => by rw [← hAe]; exact Or.inr h
  have hSz : va_S Az s.heap s.heap [] := va_S.rf
  have hl := lv_entry ([.ref h0, .ref g0]) (n := 2) (Nat.le_of_ble_eq_true rfl)
  rw [show entryFrame m args 2 = entryFrame m ([.ref h0, .ref g0] : List Value).toArray 2 from by rw [hav], lg_entry_eq]
  generalize (lg_sl ([.ref h0, .ref g0]) ++ List.replicate (2 - (lg_sl ([.ref h0, .ref g0])).length) Slot.unset).toArray = ls at hl ⊢
  have hl : lv_has ls 2 [(0, .ref h0), (1, .ref g0)] := hl
  refine lv_aload_n hx hb dX6_init_0 rfl (lv_at hl 0 rfl) ?_
  refine W.objInit hx hb hown hoi hoj hok rfl (by rw [hml]; exact hl.1) rfl dX6_init_1 (Nat.le_of_ble_eq_true rfl) (Nat.le_of_ble_eq_true rfl) ?_
  refine W.eq (g2 := F0 m 4 ls []) rfl ?_
  refine lv_aload_n hx hb dX6_init_4 rfl (lv_at hl 0 rfl) ?_
  refine lv_aload_n hx hb dX6_init_5 rfl (lv_at hl 1 rfl) ?_
  refine va_putF (ci := 6) (v := .ref g0) (ty := (.object "KeywordMatcher$Folding")) (C := RX6) (T := TX6) (N := 8) hx hb hts hiX6 tyX6 tyX6_ok nmX6 hown hK hP hD hSz 0 rfl rfl 0 (by decide) hf9 (fun _ h9 => h9) rfl hin rfl (by decide +kernel) rfl rfl (Nat.le_of_ble_eq_true rfl) dX6_init_6 (fun Hz lz hP hD hSz => ?_)
  have hP : va_P D vwCl [(h0, .inr (6, [.ref g0, .null, .null, .null, .null, .null, .int 0, .int 0]))] Hz := hP
  have hD : va_D Az [(h0, .inr (6, [.ref g0, .null, .null, .null, .null, .null, .int 0, .int 0]))] := hD
  refine lv_aload_n hx hb dX6_init_9 rfl (lv_at hl 0 rfl) ?_
  refine k_bipush (n := 40) hx hb (by decide) dX6_init_10 ?_
  refine k_newa (atype := .int) (ty := .int) (x := 40) (N' := 40) (a0 := (40, .inl (mI (fun _ => 0)))) hx hb harI rfl hK hP hD hSz hA 0 rfl (fun c d h1 h2 => Option.some.inj (h1.symm.trans h2)) arr0I rfl (Nat.le_of_ble_eq_true rfl) (Nat.le_of_ble_eq_true rfl) (Nat.le_of_ble_eq_true rfl) (Nat.le_of_ble_eq_true rfl) dX6_init_12 (fun qa1 Hz hP hD hSz => ?_)
  have hP : va_P D vwCl [(h0, .inr (6, [.ref g0, .null, .null, .null, .null, .null, .int 0, .int 0])), (qa1, .inl (cI, 40, .inl (mI (fun _ => 0))))] Hz := hP
  have hD : va_D Az [(h0, .inr (6, [.ref g0, .null, .null, .null, .null, .null, .int 0, .int 0])), (qa1, .inl (cI, 40, .inl (mI (fun _ => 0))))] := hD
  refine W.widen (k := 1) (n := 40) (Nat.le_of_eq rfl) (Nat.le_of_eq rfl) ?_
  refine va_putF (ci := 6) (v := .ref qa1) (ty := (.array .int)) (C := RX6) (T := TX6) (N := 8) hx hb hts hiX6 tyX6 tyX6_ok nmX6 hown hK hP hD hSz 0 rfl rfl 1 (by decide) hf15 (fun _ h9 => h9) rfl hin rfl (by decide +kernel) rfl rfl (Nat.le_of_ble_eq_true rfl) dX6_init_14 (fun Hz lz hP hD hSz => ?_)
  have hP : va_P D vwCl [(h0, .inr (6, [.ref g0, .ref qa1, .null, .null, .null, .null, .int 0, .int 0])), (qa1, .inl (cI, 40, .inl (mI (fun _ => 0))))] Hz := hP
  have hD : va_D Az [(h0, .inr (6, [.ref g0, .ref qa1, .null, .null, .null, .null, .int 0, .int 0])), (qa1, .inl (cI, 40, .inl (mI (fun _ => 0))))] := hD
  refine lv_aload_n hx hb dX6_init_17 rfl (lv_at hl 0 rfl) ?_
  refine k_bipush (n := 40) hx hb (by decide) dX6_init_18 ?_
  refine k_newa (atype := .int) (ty := .int) (x := 40) (N' := 40) (a0 := (40, .inl (mI (fun _ => 0)))) hx hb harI rfl hK hP hD hSz hA 0 rfl (fun c d h1 h2 => Option.some.inj (h1.symm.trans h2)) arr0I rfl (Nat.le_of_ble_eq_true rfl) (Nat.le_of_ble_eq_true rfl) (Nat.le_of_ble_eq_true rfl) (Nat.le_of_ble_eq_true rfl) dX6_init_20 (fun qa2 Hz hP hD hSz => ?_)
  have hP : va_P D vwCl [(h0, .inr (6, [.ref g0, .ref qa1, .null, .null, .null, .null, .int 0, .int 0])), (qa1, .inl (cI, 40, .inl (mI (fun _ => 0)))), (qa2, .inl (cI, 40, .inl (mI (fun _ => 0))))] Hz := hP
  have hD : va_D Az [(h0, .inr (6, [.ref g0, .ref qa1, .null, .null, .null, .null, .int 0, .int 0])), (qa1, .inl (cI, 40, .inl (mI (fun _ => 0)))), (qa2, .inl (cI, 40, .inl (mI (fun _ => 0))))] := hD
  refine W.widen (k := 2) (n := 80) (Nat.le_of_eq rfl) (Nat.le_of_eq rfl) ?_
  refine va_putF (ci := 6) (v := .ref qa2) (ty := (.array .int)) (C := RX6) (T := TX6) (N := 8) hx hb hts hiX6 tyX6 tyX6_ok nmX6 hown hK hP hD hSz 0 rfl rfl 2 (by decide) hf19 (fun _ h9 => h9) rfl hin rfl (by decide +kernel) rfl rfl (Nat.le_of_ble_eq_true rfl) dX6_init_22 (fun Hz lz hP hD hSz => ?_)
  have hP : va_P D vwCl [(h0, .inr (6, [.ref g0, .ref qa1, .ref qa2, .null, .null, .null, .int 0, .int 0])), (qa1, .inl (cI, 40, .inl (mI (fun _ => 0)))), (qa2, .inl (cI, 40, .inl (mI (fun _ => 0))))] Hz := hP
  have hD : va_D Az [(h0, .inr (6, [.ref g0, .ref qa1, .ref qa2, .null, .null, .null, .int 0, .int 0])), (qa1, .inl (cI, 40, .inl (mI (fun _ => 0)))), (qa2, .inl (cI, 40, .inl (mI (fun _ => 0))))] := hD
  refine lv_aload_n hx hb dX6_init_25 rfl (lv_at hl 0 rfl) ?_
  refine k_sipush (n := 1600) hx hb (by decide) dX6_init_26 ?_
  refine k_newa (atype := .int) (ty := .int) (x := 1600) (N' := 1600) (a0 := (1600, .inl (mI (fun _ => 0)))) hx hb harI rfl hK hP hD hSz hA 0 rfl (fun c d h1 h2 => Option.some.inj (h1.symm.trans h2)) arr0I rfl (Nat.le_of_ble_eq_true rfl) (Nat.le_of_ble_eq_true rfl) (Nat.le_of_ble_eq_true rfl) (Nat.le_of_ble_eq_true rfl) dX6_init_29 (fun qa3 Hz hP hD hSz => ?_)
  have hP : va_P D vwCl [(h0, .inr (6, [.ref g0, .ref qa1, .ref qa2, .null, .null, .null, .int 0, .int 0])), (qa1, .inl (cI, 40, .inl (mI (fun _ => 0)))), (qa2, .inl (cI, 40, .inl (mI (fun _ => 0)))), (qa3, .inl (cI, 1600, .inl (mI (fun _ => 0))))] Hz := hP
  have hD : va_D Az [(h0, .inr (6, [.ref g0, .ref qa1, .ref qa2, .null, .null, .null, .int 0, .int 0])), (qa1, .inl (cI, 40, .inl (mI (fun _ => 0)))), (qa2, .inl (cI, 40, .inl (mI (fun _ => 0)))), (qa3, .inl (cI, 1600, .inl (mI (fun _ => 0))))] := hD
  refine W.widen (k := 3) (n := 1680) (Nat.le_of_eq rfl) (Nat.le_of_eq rfl) ?_
  refine va_putF (ci := 6) (v := .ref qa3) (ty := (.array .int)) (C := RX6) (T := TX6) (N := 8) hx hb hts hiX6 tyX6 tyX6_ok nmX6 hown hK hP hD hSz 0 rfl rfl 3 (by decide) hf22 (fun _ h9 => h9) rfl hin rfl (by decide +kernel) rfl rfl (Nat.le_of_ble_eq_true rfl) dX6_init_31 (fun Hz lz hP hD hSz => ?_)
  have hP : va_P D vwCl [(h0, .inr (6, [.ref g0, .ref qa1, .ref qa2, .ref qa3, .null, .null, .int 0, .int 0])), (qa1, .inl (cI, 40, .inl (mI (fun _ => 0)))), (qa2, .inl (cI, 40, .inl (mI (fun _ => 0)))), (qa3, .inl (cI, 1600, .inl (mI (fun _ => 0))))] Hz := hP
  have hD : va_D Az [(h0, .inr (6, [.ref g0, .ref qa1, .ref qa2, .ref qa3, .null, .null, .int 0, .int 0])), (qa1, .inl (cI, 40, .inl (mI (fun _ => 0)))), (qa2, .inl (cI, 40, .inl (mI (fun _ => 0)))), (qa3, .inl (cI, 1600, .inl (mI (fun _ => 0))))] := hD
  refine lv_aload_n hx hb dX6_init_34 rfl (lv_at hl 0 rfl) ?_
  refine va_new (ci := 1) (fs := [.null, .int 0]) (C := RX1) (T := TX1) (N := 2) hx hb hts hiX1 tyX1 tyX1_ok hown hcl25 hinsX1 hiniX1 hK hP hD hSz hA rfl (by decide +kernel) (Nat.le_of_ble_eq_true rfl) (Nat.le_of_ble_eq_true rfl) dX6_init_35 (fun qo4 Hz hP hD hSz => ?_)
  have hP : va_P D vwCl [(h0, .inr (6, [.ref g0, .ref qa1, .ref qa2, .ref qa3, .null, .null, .int 0, .int 0])), (qa1, .inl (cI, 40, .inl (mI (fun _ => 0)))), (qa2, .inl (cI, 40, .inl (mI (fun _ => 0)))), (qa3, .inl (cI, 1600, .inl (mI (fun _ => 0)))), (qo4, .inr (1, [.null, .int 0]))] Hz := hP
  have hD : va_D Az [(h0, .inr (6, [.ref g0, .ref qa1, .ref qa2, .ref qa3, .null, .null, .int 0, .int 0])), (qa1, .inl (cI, 40, .inl (mI (fun _ => 0)))), (qa2, .inl (cI, 40, .inl (mI (fun _ => 0)))), (qa3, .inl (cI, 1600, .inl (mI (fun _ => 0)))), (qo4, .inr (1, [.null, .int 0]))] := hD
  refine W.widen (k := 4) (n := 1682) (Nat.le_of_eq rfl) (Nat.le_of_eq rfl) ?_
  refine lv_dup hx hb dX6_init_38 rfl ?_
  refine k_sipush (n := 640) hx hb (by decide) dX6_init_39 ?_
  refine k_wI (As := [.int (iI 640)]) (rest := [.ref qo4, .ref h0]) (wc := [(qo4, .inr (1, [.null, .int 0]))]) (wr := [(h0, .inr (6, [.ref g0, .ref qa1, .ref qa2, .ref qa3, .null, .null, .int 0, .int 0])), (qa1, .inl (cI, 40, .inl (mI (fun _ => 0)))), (qa2, .inl (cI, 40, .inl (mI (fun _ => 0)))), (qa3, .inl (cI, 1600, .inl (mI (fun _ => 0))))]) ⟨hx, hb, hml, hown, hts⟩ hK hP hD hSz hA [4] rfl (by decide) [0, 1, 2, 3] rfl (by decide) (by decide) (c_X1_init l D cI cZ cJ (h0 := qo4) (n0 := 640) (Nat.le_of_ble_eq_true rfl)) (cwI 1 hts gX6_init_X1_init rfl rfl rfl hiniX1 hmi27 himX1 rfl (by decide +kernel) ⟨Nat.le_of_ble_eq_true rfl, Nat.le_of_ble_eq_true rfl⟩) rfl hl.1 rfl (lv_room (Nat.le_of_ble_eq_true rfl)) dX6_init_42 ⟨(Nat.le_of_ble_eq_true rfl), (Nat.le_of_ble_eq_true rfl)⟩ (fun w9 Hz lz hG hP hD hSz => ?_)
  obtain ⟨qa5, rfl⟩ := hG
  have hP : va_P D vwCl [(h0, .inr (6, [.ref g0, .ref qa1, .ref qa2, .ref qa3, .null, .null, .int 0, .int 0])), (qa1, .inl (cI, 40, .inl (mI (fun _ => 0)))), (qa2, .inl (cI, 40, .inl (mI (fun _ => 0)))), (qa3, .inl (cI, 1600, .inl (mI (fun _ => 0)))), (qo4, .inr (1, [.ref qa5, .int (iI 0)])), (qa5, .inl (cI, 640, .inl (mI (fun _ => 0))))] Hz := hP
  have hD : va_D Az [(h0, .inr (6, [.ref g0, .ref qa1, .ref qa2, .ref qa3, .null, .null, .int 0, .int 0])), (qa1, .inl (cI, 40, .inl (mI (fun _ => 0)))), (qa2, .inl (cI, 40, .inl (mI (fun _ => 0)))), (qa3, .inl (cI, 1600, .inl (mI (fun _ => 0)))), (qo4, .inr (1, [.ref qa5, .int (iI 0)])), (qa5, .inl (cI, 640, .inl (mI (fun _ => 0))))] := hD
  refine W.widen (k := 5) (n := 2322) (Nat.le_of_eq rfl) (Nat.le_of_eq rfl) ?_
  refine va_put (ci := 6) (v := .ref qo4) (ty := (.object "KeywordMatcher$ByteRow")) (C := RX6) (T := TX6) (N := 8) hx hb hts hiX6 tyX6 tyX6_ok nmX6 hown hK hP hD hSz 0 rfl rfl 4 (by decide) hf30 (fun _ h9 => h9) rfl (by decide +kernel) rfl rfl (Nat.le_of_ble_eq_true rfl) dX6_init_45 (fun Hz lz hP hD hSz => ?_)
  have hP : va_P D vwCl [(h0, .inr (6, [.ref g0, .ref qa1, .ref qa2, .ref qa3, .ref qo4, .null, .int 0, .int 0])), (qa1, .inl (cI, 40, .inl (mI (fun _ => 0)))), (qa2, .inl (cI, 40, .inl (mI (fun _ => 0)))), (qa3, .inl (cI, 1600, .inl (mI (fun _ => 0)))), (qo4, .inr (1, [.ref qa5, .int (iI 0)])), (qa5, .inl (cI, 640, .inl (mI (fun _ => 0))))] Hz := hP
  have hD : va_D Az [(h0, .inr (6, [.ref g0, .ref qa1, .ref qa2, .ref qa3, .ref qo4, .null, .int 0, .int 0])), (qa1, .inl (cI, 40, .inl (mI (fun _ => 0)))), (qa2, .inl (cI, 40, .inl (mI (fun _ => 0)))), (qa3, .inl (cI, 1600, .inl (mI (fun _ => 0)))), (qo4, .inr (1, [.ref qa5, .int (iI 0)])), (qa5, .inl (cI, 640, .inl (mI (fun _ => 0))))] := hD
  refine lv_aload_n hx hb dX6_init_48 rfl (lv_at hl 0 rfl) ?_
  refine va_new (ci := 1) (fs := [.null, .int 0]) (C := RX1) (T := TX1) (N := 2) hx hb hts hiX1 tyX1 tyX1_ok hown hcl25 hinsX1 hiniX1 hK hP hD hSz hA rfl (by decide +kernel) (Nat.le_of_ble_eq_true rfl) (Nat.le_of_ble_eq_true rfl) dX6_init_49 (fun qo6 Hz hP hD hSz => ?_)
  have hP : va_P D vwCl [(h0, .inr (6, [.ref g0, .ref qa1, .ref qa2, .ref qa3, .ref qo4, .null, .int 0, .int 0])), (qa1, .inl (cI, 40, .inl (mI (fun _ => 0)))), (qa2, .inl (cI, 40, .inl (mI (fun _ => 0)))), (qa3, .inl (cI, 1600, .inl (mI (fun _ => 0)))), (qo4, .inr (1, [.ref qa5, .int (iI 0)])), (qa5, .inl (cI, 640, .inl (mI (fun _ => 0)))), (qo6, .inr (1, [.null, .int 0]))] Hz := hP
  have hD : va_D Az [(h0, .inr (6, [.ref g0, .ref qa1, .ref qa2, .ref qa3, .ref qo4, .null, .int 0, .int 0])), (qa1, .inl (cI, 40, .inl (mI (fun _ => 0)))), (qa2, .inl (cI, 40, .inl (mI (fun _ => 0)))), (qa3, .inl (cI, 1600, .inl (mI (fun _ => 0)))), (qo4, .inr (1, [.ref qa5, .int (iI 0)])), (qa5, .inl (cI, 640, .inl (mI (fun _ => 0)))), (qo6, .inr (1, [.null, .int 0]))] := hD
  refine W.widen (k := 6) (n := 2324) (Nat.le_of_eq rfl) (Nat.le_of_eq rfl) ?_
  refine lv_dup hx hb dX6_init_52 rfl ?_
  refine k_sipush (n := 640) hx hb (by decide) dX6_init_53 ?_
  refine k_wI (As := [.int (iI 640)]) (rest := [.ref qo6, .ref h0]) (wc := [(qo6, .inr (1, [.null, .int 0]))]) (wr := [(h0, .inr (6, [.ref g0, .ref qa1, .ref qa2, .ref qa3, .ref qo4, .null, .int 0, .int 0])), (qa1, .inl (cI, 40, .inl (mI (fun _ => 0)))), (qa2, .inl (cI, 40, .inl (mI (fun _ => 0)))), (qa3, .inl (cI, 1600, .inl (mI (fun _ => 0)))), (qo4, .inr (1, [.ref qa5, .int (iI 0)])), (qa5, .inl (cI, 640, .inl (mI (fun _ => 0))))]) ⟨hx, hb, hml, hown, hts⟩ hK hP hD hSz hA [6] rfl (by decide) [0, 1, 2, 3, 4, 5] rfl (by decide) (by decide) (c_X1_init l D cI cZ cJ (h0 := qo6) (n0 := 640) (Nat.le_of_ble_eq_true rfl)) (cwI 1 hts gX6_init_X1_init rfl rfl rfl hiniX1 hmi27 himX1 rfl (by decide +kernel) ⟨Nat.le_of_ble_eq_true rfl, Nat.le_of_ble_eq_true rfl⟩) rfl hl.1 rfl (lv_room (Nat.le_of_ble_eq_true rfl)) dX6_init_56 ⟨(Nat.le_of_ble_eq_true rfl), (Nat.le_of_ble_eq_true rfl)⟩ (fun w9 Hz lz hG hP hD hSz => ?_)
  obtain ⟨qa7, rfl⟩ := hG
  have hP : va_P D vwCl [(h0, .inr (6, [.ref g0, .ref qa1, .ref qa2, .ref qa3, .ref qo4, .null, .int 0, .int 0])), (qa1, .inl (cI, 40, .inl (mI (fun _ => 0)))), (qa2, .inl (cI, 40, .inl (mI (fun _ => 0)))), (qa3, .inl (cI, 1600, .inl (mI (fun _ => 0)))), (qo4, .inr (1, [.ref qa5, .int (iI 0)])), (qa5, .inl (cI, 640, .inl (mI (fun _ => 0)))), (qo6, .inr (1, [.ref qa7, .int (iI 0)])), (qa7, .inl (cI, 640, .inl (mI (fun _ => 0))))] Hz := hP
  have hD : va_D Az [(h0, .inr (6, [.ref g0, .ref qa1, .ref qa2, .ref qa3, .ref qo4, .null, .int 0, .int 0])), (qa1, .inl (cI, 40, .inl (mI (fun _ => 0)))), (qa2, .inl (cI, 40, .inl (mI (fun _ => 0)))), (qa3, .inl (cI, 1600, .inl (mI (fun _ => 0)))), (qo4, .inr (1, [.ref qa5, .int (iI 0)])), (qa5, .inl (cI, 640, .inl (mI (fun _ => 0)))), (qo6, .inr (1, [.ref qa7, .int (iI 0)])), (qa7, .inl (cI, 640, .inl (mI (fun _ => 0))))] := hD
  refine W.widen (k := 7) (n := 2964) (Nat.le_of_eq rfl) (Nat.le_of_eq rfl) ?_
  refine va_put (ci := 6) (v := .ref qo6) (ty := (.object "KeywordMatcher$ByteRow")) (C := RX6) (T := TX6) (N := 8) hx hb hts hiX6 tyX6 tyX6_ok nmX6 hown hK hP hD hSz 0 rfl rfl 5 (by decide) hf34 (fun _ h9 => h9) rfl (by decide +kernel) rfl rfl (Nat.le_of_ble_eq_true rfl) dX6_init_59 (fun Hz lz hP hD hSz => ?_)
  have hP : va_P D vwCl [(h0, .inr (6, [.ref g0, .ref qa1, .ref qa2, .ref qa3, .ref qo4, .ref qo6, .int 0, .int 0])), (qa1, .inl (cI, 40, .inl (mI (fun _ => 0)))), (qa2, .inl (cI, 40, .inl (mI (fun _ => 0)))), (qa3, .inl (cI, 1600, .inl (mI (fun _ => 0)))), (qo4, .inr (1, [.ref qa5, .int (iI 0)])), (qa5, .inl (cI, 640, .inl (mI (fun _ => 0)))), (qo6, .inr (1, [.ref qa7, .int (iI 0)])), (qa7, .inl (cI, 640, .inl (mI (fun _ => 0))))] Hz := hP
  have hD : va_D Az [(h0, .inr (6, [.ref g0, .ref qa1, .ref qa2, .ref qa3, .ref qo4, .ref qo6, .int 0, .int 0])), (qa1, .inl (cI, 40, .inl (mI (fun _ => 0)))), (qa2, .inl (cI, 40, .inl (mI (fun _ => 0)))), (qa3, .inl (cI, 1600, .inl (mI (fun _ => 0)))), (qo4, .inr (1, [.ref qa5, .int (iI 0)])), (qa5, .inl (cI, 640, .inl (mI (fun _ => 0)))), (qo6, .inr (1, [.ref qa7, .int (iI 0)])), (qa7, .inl (cI, 640, .inl (mI (fun _ => 0))))] := hD
  refine lv_aload_n hx hb dX6_init_62 rfl (lv_at hl 0 rfl) ?_
  refine k_iconst (n := 0) hx hb dX6_init_63 ?_
  refine va_put (ci := 6) (v := .int (iI 0)) (ty := .int) (C := RX6) (T := TX6) (N := 8) hx hb hts hiX6 tyX6 tyX6_ok nmX6 hown hK hP hD hSz 0 rfl rfl 6 (by decide) hf37 (fun _ h9 => h9) rfl (by decide +kernel) rfl rfl (Nat.le_of_ble_eq_true rfl) dX6_init_64 (fun Hz lz hP hD hSz => ?_)
  have hP : va_P D vwCl [(h0, .inr (6, [.ref g0, .ref qa1, .ref qa2, .ref qa3, .ref qo4, .ref qo6, .int (iI 0), .int 0])), (qa1, .inl (cI, 40, .inl (mI (fun _ => 0)))), (qa2, .inl (cI, 40, .inl (mI (fun _ => 0)))), (qa3, .inl (cI, 1600, .inl (mI (fun _ => 0)))), (qo4, .inr (1, [.ref qa5, .int (iI 0)])), (qa5, .inl (cI, 640, .inl (mI (fun _ => 0)))), (qo6, .inr (1, [.ref qa7, .int (iI 0)])), (qa7, .inl (cI, 640, .inl (mI (fun _ => 0))))] Hz := hP
  have hD : va_D Az [(h0, .inr (6, [.ref g0, .ref qa1, .ref qa2, .ref qa3, .ref qo4, .ref qo6, .int (iI 0), .int 0])), (qa1, .inl (cI, 40, .inl (mI (fun _ => 0)))), (qa2, .inl (cI, 40, .inl (mI (fun _ => 0)))), (qa3, .inl (cI, 1600, .inl (mI (fun _ => 0)))), (qo4, .inr (1, [.ref qa5, .int (iI 0)])), (qa5, .inl (cI, 640, .inl (mI (fun _ => 0)))), (qo6, .inr (1, [.ref qa7, .int (iI 0)])), (qa7, .inl (cI, 640, .inl (mI (fun _ => 0))))] := hD
  refine lv_aload_n hx hb dX6_init_67 rfl (lv_at hl 0 rfl) ?_
  refine k_iconst (n := 0) hx hb dX6_init_68 ?_
  refine va_put (ci := 6) (v := .int (iI 0)) (ty := .boolean) (C := RX6) (T := TX6) (N := 8) hx hb hts hiX6 tyX6 tyX6_ok nmX6 hown hK hP hD hSz 0 rfl rfl 7 (by decide) hf41 (fun _ h9 => h9) rfl (by decide +kernel) (narZ (v := 0) (by decide)) rfl (Nat.le_of_ble_eq_true rfl) dX6_init_69 (fun Hz lz hP hD hSz => ?_)
  have hP : va_P D vwCl [(h0, .inr (6, [.ref g0, .ref qa1, .ref qa2, .ref qa3, .ref qo4, .ref qo6, .int (iI 0), .int (iI 0)])), (qa1, .inl (cI, 40, .inl (mI (fun _ => 0)))), (qa2, .inl (cI, 40, .inl (mI (fun _ => 0)))), (qa3, .inl (cI, 1600, .inl (mI (fun _ => 0)))), (qo4, .inr (1, [.ref qa5, .int (iI 0)])), (qa5, .inl (cI, 640, .inl (mI (fun _ => 0)))), (qo6, .inr (1, [.ref qa7, .int (iI 0)])), (qa7, .inl (cI, 640, .inl (mI (fun _ => 0))))] Hz := hP
  have hD : va_D Az [(h0, .inr (6, [.ref g0, .ref qa1, .ref qa2, .ref qa3, .ref qo4, .ref qo6, .int (iI 0), .int (iI 0)])), (qa1, .inl (cI, 40, .inl (mI (fun _ => 0)))), (qa2, .inl (cI, 40, .inl (mI (fun _ => 0)))), (qa3, .inl (cI, 1600, .inl (mI (fun _ => 0)))), (qo4, .inr (1, [.ref qa5, .int (iI 0)])), (qa5, .inl (cI, 640, .inl (mI (fun _ => 0)))), (qo6, .inr (1, [.ref qa7, .int (iI 0)])), (qa7, .inl (cI, 640, .inl (mI (fun _ => 0))))] := hD
  have hP : va_P D vwCl [(h0, .inr (6, [.ref g0, .ref qa1, .ref qa2, .ref qa3, .ref qo4, .ref qo6, .int (iI 0), .int (iI 0)])), (qa1, .inl (cI, 40, .inl (mI (fun _ => 0)))), (qa2, .inl (cI, 40, .inl (mI (fun _ => 0)))), (qa3, .inl (cI, 1600, .inl (mI (fun _ => 0)))), (qo4, .inr (1, [.ref qa5, .int (iI 0)])), (qa5, .inl (cI, 640, .inl (mI (fun _ => 0)))), (qo6, .inr (1, [.ref qa7, .int (iI 0)])), (qa7, .inl (cI, 640, .inl (mI (fun _ => 0))))] _ := hP.sub [0, 1, 2, 3, 4, 5, 6, 7] rfl
  have hD : va_D Az [(h0, .inr (6, [.ref g0, .ref qa1, .ref qa2, .ref qa3, .ref qo4, .ref qo6, .int (iI 0), .int (iI 0)])), (qa1, .inl (cI, 40, .inl (mI (fun _ => 0)))), (qa2, .inl (cI, 40, .inl (mI (fun _ => 0)))), (qa3, .inl (cI, 1600, .inl (mI (fun _ => 0)))), (qo4, .inr (1, [.ref qa5, .int (iI 0)])), (qa5, .inl (cI, 640, .inl (mI (fun _ => 0)))), (qo6, .inr (1, [.ref qa7, .int (iI 0)])), (qa7, .inl (cI, 640, .inl (mI (fun _ => 0))))] := hD.sub [0, 1, 2, 3, 4, 5, 6, 7] (by decide) rfl
  exact W.vret hx hb hr (fun t ht _ => ⟨rfl, ⟨_, ⟨qa1, qa2, qa3, qo4, qa5, qo6, qa7, rfl⟩, by rw [ht]; exact hP, hD⟩, hSz.F ht⟩) hSz.2.2 dX6_init_72 hlk
