/-! ===== the law, from its entry ===== -/
theorem lz_arr {args : Array Value} {s : State} {ty : FieldType} (h : (Cond.arrayClass ty).before args s = true) (hn : ∀ C, ty ≠ .object C) : ∃ cA, ArrOfT s cA ty ∧ va_RA s cA ty := by
  obtain ⟨cA, kA, comp, h1, h2, h3⟩ := Cond.arrayClass_spec h
  refine ⟨cA, fun n z => ⟨fun k h => (by cases h), kA, h2, comp, h3⟩, ?_⟩
  cases ty with
  | object C => exact absurd rfl (hn C)
  | _ => exact h1
theorem lz_left (wa wb : va_W) : (List.range wa.length).map (fun i => (wa ++ wb)[i]?) = wa.map some := by
  apply List.ext_getElem?
  intro i
  rw [List.getElem?_map, List.getElem?_map]
  by_cases h : i < wa.length
  · rw [List.getElem?_range h]
    show some ((wa ++ wb)[i]?) = _
    rw [List.getElem?_append_left h, List.getElem?_eq_getElem h]
    rfl
  · have h1 : (List.range wa.length)[i]? = none := List.getElem?_eq_none (by rw [List.length_range]; omega)
    have h2 : wa[i]? = none := List.getElem?_eq_none (by omega)
    rw [h1, h2]
    rfl
theorem lz_split {D : va_G} {cl : List vw_C} {wa wb : va_W} {H : Heap} (h : va_P D cl (wa ++ wb) H) : va_P D cl wa H ∧ va_P D cl wb H :=
  ⟨fun k q hk => h k q (by rw [List.getElem?_append_left (List.getElem?_eq_some_iff.mp hk).1]; exact hk), fun k q hk => h (wa.length + k) q (by rw [List.getElem?_append_right (by omega), show wa.length + k - wa.length = k by omega]; exact hk)⟩
theorem szc_0 {l : Int} (h1 : 0 ≤ l) (h2 : l < 7) : szc 0 l = 0 := by
  have zz : ∀ l : Fin 7, szc 0 (l.val : Int) = 0 := by decide +kernel
  obtain ⟨n, rfl⟩ := Int.eq_ofNat_of_zero_le h1
  exact zz ⟨n, by omega⟩
theorem IV.start : IV 0 0 0 0 0 0 0 0 0 (fun _ => 0) (fun _ => 0) (fun _ => 0) (fun _ => 0) (fun _ => 0) (fun _ => 0) (fun _ => 0) (fun _ => 0) (fun _ => 0) (fun _ => 0) (fun _ => 0) := by
  have zb : ∀ j : Int, 0 ≤ (fun _ : Int => (0 : Int)) j ∧ (fun _ : Int => (0 : Int)) j < 256 := fun j => by show (0 : Int) ≤ 0 ∧ (0 : Int) < 256; omega
  refine ⟨by omega, by omega, fun j a b => zb j, ⟨by omega, by omega, fun k a b => by omega⟩, fun a b h => by have := h.1; have := h.2.1; omega, rfl, ⟨by omega, by omega, by omega, by omega, Or.inl rfl⟩, fun i a b => by omega, fun l a b => ⟨by rw [szc_0 a b], fun i c d => rfl⟩, fun l a b => ⟨by rw [szc_0 a b], fun i c d => rfl⟩, by omega, fun j a b => zb j, fun p l a b c d => Or.inl ⟨?_, fun k h => by have := h.1; have := h.2.1; omega⟩, by omega⟩
  unfold mt
  rw [gb_zero (by omega) (by omega)]
  rfl
theorem LW.start {cI cZ cJ : ClassId} {adK adM : Nat → Nat} : LW cI cZ cJ (adK 0) (adM 0) 0 (wK cI cZ cJ adK 0 0 0 0 0 (fun _ => 0) 0 0 (fun _ => 0) (fun _ => 0) (fun _ => 0) (fun _ => 0) 0 (fun _ => 0) 0 (fun _ => 0) 0 0 false (fun _ => 0) (fun _ => 0) (fun _ => 0) 0 (fun _ => 0) 0 (fun _ => 0) 0 (fun _ => 0) (fun _ => 0) 0 (fun _ => 0) (fun _ => 0) 0 (fun _ => 0) (fun _ => 0) (fun _ => 0) (fun _ => 0)) (wM cI cZ cJ adM 0 0 0 0 0 0 0 0 0 0 0 0 0 0 (fun _ => 0) (fun _ => 0) (fun _ => 0) (fun _ => 0) (fun _ => 0) (fun _ => 0) (fun _ => 0) (fun _ => 0) (fun _ => 0) (fun _ => 0) (fun _ => 0) (fun _ => 0) (fun _ => 0) (fun _ => 0) (fun _ => 0) (fun _ => 0) (fun _ => 0) (fun _ => 0) (fun _ => 0) (fun _ => 0) (fun _ => 0) (fun _ => 0) (fun _ => 0) (fun _ => 0) (fun _ => 0) (fun _ => 0) (fun _ => 0) (fun _ => 0)) := by
  have e : (0 : Int) = mn3 0 := rfl
  refine ⟨adK, adM, 0, 0, 0, 0, 0, 0, 0, 0, 0, 0, 0, 0, 0, 0, 0, 0, 0, 0, 0, 0, 0, 0, false, fun _ => 0, fun _ => 0, fun _ => 0, fun _ => 0, fun _ => 0, fun _ => 0, fun _ => 0, fun _ => 0, fun _ => 0, fun _ => 0, fun _ => 0, fun _ => 0, fun _ => 0, fun _ => 0, fun _ => 0, fun _ => 0, fun _ => 0, fun _ => 0, fun _ => 0, fun _ => 0, fun _ => 0, fun _ => 0, fun _ => 0, fun _ => 0, fun _ => 0, fun _ => 0, fun _ => 0, fun _ => 0, fun _ => 0, fun _ => 0, fun _ => 0, fun _ => 0, fun _ => 0, fun _ => 0, fun _ => 0, fun _ => 0, fun _ => 0, fun _ => 0, fun _ => 0, fun _ => 0, rfl, rfl, ?_, rfl, IV.start, Or.inl ⟨rfl, rfl⟩⟩
  rw [← e]
set_option maxHeartbeats 4000000 in
set_option maxRecDepth 100000 in
theorem whole_start {p : Program} {e : Env} {s : State} {m : MethodId} {below : List Frame} {meth : Method} {c : Code} (l : Launch) (hflags : l.flags = flags0) {b L : Nat} {xs : Nat → Int32} (hL : L ≤ 3072) (C0 : lw_At p s m meth c b L xs) : W p l e room_1 s m #[Value.ref b] below meth c s.heap [] 0 0 (lw_Z below #[Value.ref b] s) (entryFrame m ([Value.ref b] : List Value).toArray 4) := by
  obtain ⟨hx, hb, hr, hml, hown, hts, hX, hbl, hlocks, hgv⟩ := id C0
  have hA : ∀ q : Nat, s.heap.size ≤ q → (fun q : Nat => s.heap.size ≤ q) q := fun _ h => h
  have hbA : ¬ (fun q : Nat => s.heap.size ≤ q) b := Nat.not_le.mpr hbl
  have hts2 : ∀ w ∈ wsL_law, w.before #[Value.ref b] s = true := fun w h => hts w (wsL_law_in w h)
  have hown2 : s.vm.findClass RL = some m.cls := hown
  have hin0 : (Cond.instantiable RX0 2).before #[Value.ref b] s = true := hts _ (wsL_law_r2_in _ (List.mem_of_getElem? (i := 1) rfl))
  obtain ⟨c0, iS0, hKn0⟩ := u_known (C := RX0) (T := TX0) (N := 2) (n := 2) hts inX0 hin0
  have hin1 : (Cond.instantiable RX1 2).before #[Value.ref b] s = true := hts _ (wsL_law_r1_in _ (List.mem_of_getElem? (i := 17) rfl))
  obtain ⟨c1, iS1, hKn1⟩ := u_known (C := RX1) (T := TX1) (N := 2) (n := 2) hts inX1 hin1
  have hin2 : (Cond.instantiable RX2 1).before #[Value.ref b] s = true := hts _ (wsL_law_r1_in _ (List.mem_of_getElem? (i := 13) rfl))
  obtain ⟨c2, iS2, hKn2⟩ := u_known (C := RX2) (T := TX2) (N := 1) (n := 1) hts inX2 hin2
  have hin3 : (Cond.instantiable RX3 7).before #[Value.ref b] s = true := hts _ (wsL_law_r1_in _ (List.mem_of_getElem? (i := 21) rfl))
  obtain ⟨c3, iS3, hKn3⟩ := u_known (C := RX3) (T := TX3) (N := 7) (n := 7) hts inX3 hin3
  have hin4 : (Cond.instantiable RX4 3).before #[Value.ref b] s = true := hts _ (wsL_law_r2_in _ (List.mem_of_getElem? (i := 15) rfl))
  obtain ⟨c4, iS4, hKn4⟩ := u_known (C := RX4) (T := TX4) (N := 3) (n := 3) hts inX4 hin4
  have hin5 : (Cond.instantiable RX5 1).before #[Value.ref b] s = true := hts _ (wsL_law_r2_in _ (List.mem_of_getElem? (i := 11) rfl))
  obtain ⟨c5, iS5, hKn5⟩ := u_known (C := RX5) (T := TX5) (N := 1) (n := 1) hts inX5 hin5
  have hin6 : (Cond.instantiable RX6 8).before #[Value.ref b] s = true := hts _ (wsL_law_r2_in _ (List.mem_of_getElem? (i := 6) rfl))
  obtain ⟨c6, iS6, hKn6⟩ := u_known (C := RX6) (T := TX6) (N := 8) (n := 8) hts inX6 hin6
  have hin7 : (Cond.instantiable RX7 15).before #[Value.ref b] s = true := hts _ (wsL_law_r1_in _ (List.mem_of_getElem? (i := 1) rfl))
  obtain ⟨c7, iS7, hKn7⟩ := u_known (C := RX7) (T := TX7) (N := 15) (n := 15) hts inX7 hin7
  have hin8 : (Cond.instantiable RX8 42).before #[Value.ref b] s = true := hts _ (wsL_law_r1_in _ (List.mem_of_getElem? (i := 4) rfl))
  obtain ⟨c8, iS8, hKn8⟩ := u_known (C := RX8) (T := TX8) (N := 42) (n := 42) hts inX8 hin8
  obtain ⟨dC, dI, hKc⟩ : ∃ (dC : Nat → ClassId) (dI : Nat → Nat → Nat), ∀ (k : Nat) (q : vw_C), vwCl[k]? = some q → u_Kn s q.1 q.2.1 q.2.2 (dC k) (dI k) := by
    refine ⟨fun k => match k with | 0 => c0 | 1 => c1 | 2 => c2 | 3 => c3 | 4 => c4 | 5 => c5 | 6 => c6 | 7 => c7 | _ => c8, fun k => match k with | 0 => iS0 | 1 => iS1 | 2 => iS2 | 3 => iS3 | 4 => iS4 | 5 => iS5 | 6 => iS6 | 7 => iS7 | _ => iS8, ?_⟩
    intro k q hq
    match k, hq with
    | 0, hq => cases hq; exact hKn0
    | 1, hq => cases hq; exact hKn1
    | 2, hq => cases hq; exact hKn2
    | 3, hq => cases hq; exact hKn3
    | 4, hq => cases hq; exact hKn4
    | 5, hq => cases hq; exact hKn5
    | 6, hq => cases hq; exact hKn6
    | 7, hq => cases hq; exact hKn7
    | 8, hq => cases hq; exact hKn8
    | k + 9, hq => simp [vwCl] at hq
  obtain ⟨cI, aI1, aI2⟩ := lz_arr (ty := .int) (hts (Cond.arrayClass .int) (List.mem_of_getElem? (i := 121) (by decide +kernel))) (fun C h => by cases h)
  obtain ⟨cZ, aZ1, aZ2⟩ := lz_arr (ty := .boolean) (hts (Cond.arrayClass .boolean) (List.mem_of_getElem? (i := 155) (by decide +kernel))) (fun C h => by cases h)
  obtain ⟨cJ, aJ1, aJ2⟩ := lz_arr (ty := .long) (hts (Cond.arrayClass .long) (List.mem_of_getElem? (i := 214) (by decide +kernel))) (fun C h => by cases h)
  have hnst : va_Nw (.methodLinkNest RX7 11 yX2_init "KeywordMatcher") s := va_Nw.of rfl (hts (.methodLinkNest RX7 11 yX2_init "KeywordMatcher") (List.mem_of_getElem? (i := 90) (by decide +kernel)))
  have hK : va_K (dC, dI) vwCl [(cI, .int), (cZ, .boolean), (cJ, .long)] s := ⟨hKc, fun k q h => by
    match k, h with
    | 0, h => cases h; exact ⟨aI1, aI2⟩
    | 1, h => cases h; exact ⟨aZ1, aZ2⟩
    | 2, h => cases h; exact ⟨aJ1, aJ2⟩
    | k + 3, h => simp at h⟩
  have S : CallFix p m c cL_law 4 s #[Value.ref b] wsL_law RL := ⟨hx, hb, hml, hown2, hts2⟩
  have C : LzC p s m c b L xs (dC, dI) cI cZ cJ (fun q => s.heap.size ≤ q) := ⟨S, hK, hA, hbA, hX, hbl, hL⟩
  have hS : va_S (fun q : Nat => s.heap.size ≤ q) s.heap s.heap [] := va_S.rf
  have hP : va_P (dC, dI) vwCl [] s.heap := fun k q h => by simp at h
  have hD : va_D (fun q : Nat => s.heap.size ≤ q) [] := ⟨fun i j p q h => by simp at h, fun k q h => by simp at h⟩
  have hl := lv_entry ([.ref b]) (n := 4) (Nat.le_of_ble_eq_true rfl)
  rw [lg_entry_eq]
  generalize (lg_sl ([.ref b]) ++ List.replicate (4 - (lg_sl ([.ref b])).length) Slot.unset).toArray = ls at hl ⊢
  have hl : lv_has ls 4 [(0, .ref b)] := hl
  refine va_new (ci := 7) (fs := [.null, .null, .null, .null, .null, .null, .null, .null, .null, .null, .null, .null, .int 0, .int 0, .int 0]) (C := RX7) (T := TX7) (N := 15) hx hb hts2 inlX7 tyX7 tyX7_ok hown2 (index := 7) (show (Cond.classLink RL 7 RX7).before #[Value.ref b] s = true from hts _ (wsL_law_r1_in _ (List.mem_of_getElem? (i := 0) rfl))) hin7 (show (Cond.initialized RX7).before #[Value.ref b] s = true from hts _ (wsL_law_r1_in _ (List.mem_of_getElem? (i := 2) rfl))) hK hP hD hS hA rfl (by decide +kernel) (Nat.le_of_ble_eq_true rfl) (Nat.le_of_ble_eq_true rfl) dL_law_0 (fun q0 H hP hD hS => ?_)
  have hP : va_P (dC, dI) vwCl [(q0, .inr (7, [.null, .null, .null, .null, .null, .null, .null, .null, .null, .null, .null, .null, .int 0, .int 0, .int 0]))] H := hP
  have hD : va_D (fun q : Nat => s.heap.size ≤ q) [(q0, .inr (7, [.null, .null, .null, .null, .null, .null, .null, .null, .null, .null, .null, .null, .int 0, .int 0, .int 0]))] := hD
  refine lv_dup hx hb dL_law_3 rfl ?_
  have hpre : PreS s H (PWN (dC, dI) vwCl [(cI, .int), (cZ, .boolean), (cJ, .long)] [.ref q0] [(q0, .inr (7, [.null, .null, .null, .null, .null, .null, .null, .null, .null, .null, .null, .null, .int 0, .int 0, .int 0]))] H.size) [.ref q0] := ⟨fun a U g mk q => ⟨q.1, q.2.1, q.2.2.1, va_K.moved (u := U) (U := U.calling g mk a) (Vm.Alike.refl U.vm) q.2.2.2.1, q.2.2.2.2.1, va_Nw.same (u := U) (U := U.calling g mk a) rfl rfl q.2.2.2.2.2⟩, fun U hU hW => ⟨rfl, by rw [hU], by rw [hU]; exact hP, va_K.moved hW.alike hK, hD.weaken (fun _ _ _ _ => trivial), va_Nw.warmM hW hnst⟩⟩
  refine k_run_i (wr := []) (va_runI (As := []) (rest := [.ref q0]) S (c_X7_init l (dC, dI) cI cZ cJ) (cwI 0 hts2 gL_law_X7_init rfl rfl rfl (show (Cond.initialized RX7).before #[Value.ref b] s = true from hts _ (wsL_law_r1_in _ (List.mem_of_getElem? (i := 2) rfl))) (show (Cond.methodLink RL 9 yX7_init).before #[Value.ref b] s = true from hts _ (wsL_law_r1_in _ (List.mem_of_getElem? (i := 6) rfl))) (show (Cond.instanceMethod yX7_init).before #[Value.ref b] s = true from hts _ (wsL_law_r1_in _ (List.mem_of_getElem? (i := 7) rfl))) rfl (by decide +kernel) ⟨Nat.le_of_ble_eq_true rfl, Nat.le_of_ble_eq_true rfl⟩) hpre rfl rfl hl.1 rfl (lv_room (Nat.le_of_ble_eq_true rfl)) dL_law_4 ⟨Nat.le_of_ble_eq_true rfl, Nat.le_of_ble_eq_true rfl⟩) hP hD hS hA [0] rfl [] rfl rfl (fun i h => absurd h List.not_mem_nil) (fun w1 H locs hG hP hD hS => ?_)
  obtain ⟨adK, rfl, rfl⟩ := hG
  rw [List.nil_append] at hP hD
  refine lv_astore_n (lv' := [(1, .ref (adK 0)), (0, .ref b)]) hx hb dL_law_7 rfl hl (by decide) rfl (fun ls hl => ?_)
  generalize hwK : wK cI cZ cJ adK 0 0 0 0 0 (fun _ => 0) 0 0 (fun _ => 0) (fun _ => 0) (fun _ => 0) (fun _ => 0) 0 (fun _ => 0) 0 (fun _ => 0) 0 0 false (fun _ => 0) (fun _ => 0) (fun _ => 0) 0 (fun _ => 0) 0 (fun _ => 0) 0 (fun _ => 0) (fun _ => 0) 0 (fun _ => 0) (fun _ => 0) 0 (fun _ => 0) (fun _ => 0) (fun _ => 0) (fun _ => 0) = wa at hP hD
  refine va_new (ci := 8) (fs := [.int 0, .null, .int 0, .null, .null, .null, .null, .int 0, .int 0, .null, .null, .null, .int 0, .int 0, .null, .null, .null, .null, .int 0, .int 0, .null, .null, .int 0, .int 0, .null, .null, .null, .null, .null, .null, .null, .null, .int 0, .int 0, .int 0, .null, .null, .null, .null, .null, .null, .int 0]) (C := RX8) (T := TX8) (N := 42) hx hb hts2 inlX8 tyX8 tyX8_ok hown2 (index := 10) (show (Cond.classLink RL 10 RX8).before #[Value.ref b] s = true from hts _ (wsL_law_r1_in _ (List.mem_of_getElem? (i := 3) rfl))) hin8 (show (Cond.initialized RX8).before #[Value.ref b] s = true from hts _ (wsL_law_r1_in _ (List.mem_of_getElem? (i := 5) rfl))) hK hP hD hS hA rfl (by decide +kernel) (Nat.le_of_ble_eq_true rfl) (Nat.le_of_ble_eq_true rfl) dL_law_8 (fun q1 H hP hD hS => ?_)
  refine lv_dup hx hb dL_law_11 rfl ?_
  have hCC : [wa.length].map (fun i => (wa ++ [((q1, .inr (8, [.int 0, .null, .int 0, .null, .null, .null, .null, .int 0, .int 0, .null, .null, .null, .int 0, .int 0, .null, .null, .null, .null, .int 0, .int 0, .null, .null, .int 0, .int 0, .null, .null, .null, .null, .null, .null, .null, .null, .int 0, .int 0, .int 0, .null, .null, .null, .null, .null, .null, .int 0])) : Nat × va_E)])[i]?) = [((q1, .inr (8, [.int 0, .null, .int 0, .null, .null, .null, .null, .int 0, .int 0, .null, .null, .null, .int 0, .int 0, .null, .null, .null, .null, .int 0, .int 0, .null, .null, .int 0, .int 0, .null, .null, .null, .null, .null, .null, .null, .null, .int 0, .int 0, .int 0, .null, .null, .null, .null, .null, .null, .int 0])) : Nat × va_E)].map some := by
    have h : (wa ++ [((q1, .inr (8, [.int 0, .null, .int 0, .null, .null, .null, .null, .int 0, .int 0, .null, .null, .null, .int 0, .int 0, .null, .null, .null, .null, .int 0, .int 0, .null, .null, .int 0, .int 0, .null, .null, .null, .null, .null, .null, .null, .null, .int 0, .int 0, .int 0, .null, .null, .null, .null, .null, .null, .int 0])) : Nat × va_E)])[wa.length]? = some (q1, .inr (8, [.int 0, .null, .int 0, .null, .null, .null, .null, .int 0, .int 0, .null, .null, .null, .int 0, .int 0, .null, .null, .null, .null, .int 0, .int 0, .null, .null, .int 0, .int 0, .null, .null, .null, .null, .null, .null, .null, .null, .int 0, .int 0, .int 0, .null, .null, .null, .null, .null, .null, .int 0])) := by
      rw [List.getElem?_append_right (Nat.le_refl _), Nat.sub_self]
      rfl
    exact congrArg (fun z => [z]) h
  have hRR : (List.range wa.length).map (fun i => (wa ++ [((q1, .inr (8, [.int 0, .null, .int 0, .null, .null, .null, .null, .int 0, .int 0, .null, .null, .null, .int 0, .int 0, .null, .null, .null, .null, .int 0, .int 0, .null, .null, .int 0, .int 0, .null, .null, .null, .null, .null, .null, .null, .null, .int 0, .int 0, .int 0, .null, .null, .null, .null, .null, .null, .int 0])) : Nat × va_E)])[i]?) = wa.map some := lz_left wa _
  have hlen : wa.length = 33 := by rw [← hwK]; rfl
  have hnd : va_nd (List.range wa.length) = true := by rw [hlen]; decide
  refine k_wI (wr := wa) (G := _) S hK hP hD hS hA [wa.length] hCC (by rfl) (List.range wa.length) hRR hnd (fun i h g => by rw [List.mem_singleton.mp g] at h; exact absurd (List.mem_range.mp h) (Nat.lt_irrefl _)) (c_X8_init l (dC, dI) cI cZ cJ) (cwI 0 hts2 gL_law_X8_init rfl rfl rfl (show (Cond.initialized RX8).before #[Value.ref b] s = true from hts _ (wsL_law_r1_in _ (List.mem_of_getElem? (i := 5) rfl))) (show (Cond.methodLink RL 12 yX8_init).before #[Value.ref b] s = true from hts _ (wsL_law_r5_in _ (List.mem_of_getElem? (i := 12) rfl))) (show (Cond.instanceMethod yX8_init).before #[Value.ref b] s = true from hts _ (wsL_law_r5_in _ (List.mem_of_getElem? (i := 13) rfl))) rfl (by decide +kernel) ⟨Nat.le_of_ble_eq_true rfl, Nat.le_of_ble_eq_true rfl⟩) rfl hl.1 (As := []) (rest := [.ref q1]) rfl (lv_room (Nat.le_of_ble_eq_true rfl)) dL_law_12 ⟨Nat.le_of_ble_eq_true rfl, Nat.le_of_ble_eq_true rfl⟩ (fun w1 H locs hG hP hD hS => ?_)
  obtain ⟨adM, rfl, rfl⟩ := hG
  refine lv_astore_n (lv' := [(2, .ref (adM 0)), (1, .ref (adK 0)), (0, .ref b)]) hx hb dL_law_15 rfl hl (by decide) rfl (fun ls hl => ?_)
  refine k_iconst (n := 0) hx hb dL_law_16 ?_
  refine lv_istore_n (lv' := [(3, .int (iI 0)), (2, .ref (adM 0)), (1, .ref (adK 0)), (0, .ref b)]) hx hb dL_law_17 rfl hl (by decide) rfl (fun ls hl => ?_)
  refine W.widen (k := 62) (n := 34818) (Nat.le_of_ble_eq_true rfl) (Nat.le_of_ble_eq_true rfl) ?_
  subst hwK
  exact lz_loop C hr hlocks (L + 7) 0 0 H locs ls rfl (by omega) (by omega) ⟨_, _, LW.start, (lz_split hP).1, (lz_split hP).2, AP2.of hD, hS⟩ (lv_sub hl [3, 2, 1, 0] rfl)
