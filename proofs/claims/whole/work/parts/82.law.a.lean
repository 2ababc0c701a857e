/-! ===== the law: two worlds side by side, its calls, its script ===== -/
def AP2 (A0 : Nat → Prop) (wa wb : va_W) : Prop := va_D A0 wa ∧ va_D A0 wb ∧ ∀ (i j : Nat) (u v : Nat × va_E), wa[i]? = some u → wb[j]? = some v → u.1 ≠ v.1
theorem AP2.symm {A0 : Nat → Prop} {wa wb : va_W} (h : AP2 A0 wa wb) : AP2 A0 wb wa := ⟨h.2.1, h.1, fun i j u v hu hv e => h.2.2 j i v u hv hu e.symm⟩
theorem AP2.of {A0 : Nat → Prop} {wa wb : va_W} (h : va_D A0 (wa ++ wb)) : AP2 A0 wa wb := by
  have hl : ∀ (i : Nat) (u : Nat × va_E), wa[i]? = some u → (wa ++ wb)[i]? = some u := fun i u hi => by
    rw [List.getElem?_append_left (List.getElem?_eq_some_iff.mp hi).1]; exact hi
  have hr : ∀ (i : Nat) (u : Nat × va_E), wb[i]? = some u → (wa ++ wb)[wa.length + i]? = some u := fun i u hi => by
    rw [List.getElem?_append_right (by omega), show wa.length + i - wa.length = i by omega]; exact hi
  refine ⟨⟨fun i j u v hi hj e => h.1 i j u v (hl i u hi) (hl j v hj) e, fun k u hk => h.2 k u (hl k u hk)⟩, ⟨fun i j u v hi hj e => ?_, fun k u hk => h.2 _ u (hr k u hk)⟩, fun i j u v hi hj e => ?_⟩
  · have := h.1 _ _ u v (hr i u hi) (hr j v hj) e
    omega
  · have := h.1 _ _ u v (hl i u hi) (hr j v hj) e
    have := (List.getElem?_eq_some_iff.mp hi).1
    omega
theorem AP2.fst {A0 : Nat → Prop} {wa wb w1 : va_W} (h : AP2 A0 wa wb) (hl : w1.map Prod.fst = wa.map Prod.fst) : AP2 A0 w1 wb := by
  refine ⟨va_D_fst h.1 hl, h.2.1, fun i j u v hi hj e => ?_⟩
  have h1 : (w1.map Prod.fst)[i]? = some u.1 := by rw [List.getElem?_map, hi]; rfl
  rw [hl, List.getElem?_map] at h1
  cases hq : wa[i]? with
  | none => rw [hq] at h1; cases h1
  | some q0 =>
    rw [hq] at h1
    have h2 : q0.1 = u.1 := Option.some.inj h1
    exact h.2.2 i j q0 v hq hj (by rw [h2]; exact e)
section LZCALL
variable {p : Program} {l : Launch} {e : Env} {R : Room} {s : State} {m : MethodId} {args : Array Value} {below : List Frame} {meth : Method} {c : Code} {H : Heap} {locs : List Loc} {cells slots : Nat} {Q : State → Prop}
variable {cc : ByteArray} {pc : Nat} {ls : Array Slot} {rest : List Value}
variable {D : va_G} {cl : List vw_C} {tys : List (ClassId × FieldType)} {ws wb w1 : va_W} {A0 : Nat → Prop} {H0 : Heap}
variable {y : MethodName} {bytes : ByteArray} {maxL nL n index : Nat} {ret : Option FieldType} {wm : List Cond} {rm : Room} {Ts : List Cond} {own C : String} {b : Addr} {As st0 : List Value} {rv : Option Value}
/-- a call of a method that writes its own world, beside another -/
theorem lz_w (S : CallFix p m c cc nL s args Ts own) (hK : va_K D cl tys s) (hP : va_P D cl ws H) (hPb : va_P D cl wb H) (hD : AP2 A0 ws wb) (hS : va_S A0 H0 H locs) (hA : ∀ q, H0.size ≤ q → A0 q) (hM : Met l y wm rm (PW D cl tys (.ref b :: As) ws H.size) (QW D cl rv w1 (va_A ws H.size)) 0 0 (va_A ws H.size)) (cw : CallW R s args own C index y bytes maxL ret wm rm 0 0 n) (q0 : Nat) {ci : Nat} {q : vw_C} {fs : List Value} (he : ws[q0]? = some (b, .inr (ci, fs))) (hc : cl[ci]? = some q) (hq : q.1 = C) (hl : w1.map Prod.fst = ws.map Prod.fst)
    (hn : As.length = n) (hsize : ls.size = nL) (hstack : st0 = As.reverse ++ .ref b :: rest) (hW : 2 * (F0 m pc ls st0).monitorRoom + (rest.map fun v => v.category).sum ≤ 8) (hdg : decode cc pc = .ok (.invokevirtual index, 3)) (hf : cells ≤ R.cells ∧ slots ≤ R.slots) {st1 : List Value} (h1 : rv.toList ++ rest = st1)
    (kk : ∀ (H1 : Heap) (locs1 : List Loc), va_P D cl w1 H1 → va_P D cl wb H1 → AP2 A0 w1 wb → va_S A0 H0 H1 locs1 → W p l e R s m args below meth c H1 locs1 cells slots Q (F0 m (pc + 3) ls st1)) : W p l e R s m args below meth c H locs cells slots Q (F0 m pc ls st0) := by
  subst hq
  subst h1
  intro T hT X
  have hr := va_runV S hM cw ⟨fun a U g mk q => ⟨q.1, q.2.1, q.2.2.1, va_K.moved (u := U) (U := U.calling g mk a) (Vm.Alike.refl U.vm) q.2.2.2.1, q.2.2.2.2⟩, va_recv hK hP hc he, fun U hU hW => ⟨rfl, by rw [hU], by rw [hU]; exact hP, va_K.moved hW.alike hK, hD.1.weaken (fun _ _ _ _ => trivial)⟩⟩ rfl hn hsize hstack hW hdg hf (g := F0 m pc ls st0) (rest := rest) (locs := locs) (below := below) (meth := meth) (e := e) (cells := cells) (slots := slots)
  obtain ⟨v, st₀, t, T', L, h0, X', hL, e1, e2, ⟨hv, hp, hz, hk⟩, st⟩ := hr T hT X
  cases hv
  rw [h0] at hz hk
  rw [← e1] at hz hk hp
  have hF : ∀ q, va_A ws H.size q → A0 q := by
    intro q hq
    rcases hq with ⟨k, e, h⟩ | h
    · exact hD.1.2 k (q, e) h
    · exact hA q (Nat.le_trans hS.1 h)
  have hPb1 : va_P D cl wb T'.heap := fun k q hq => by
    have hlt := (hPb k q hq).lt
    refine (hPb k q hq).kept (hk q.1 hlt (fun z => ?_))
    rcases z with ⟨k2, e3, h2⟩ | h2
    · exact hD.2.2 k2 k (q.1, e3) q h2 hq rfl
    · omega
  obtain ⟨t2, a1, b1⟩ := kk T'.heap (locs ++ L) hp hPb1 (hD.fst hl) ⟨Nat.le_trans hS.1 hz, fun q h1 h2 => by
      rw [hk q (Nat.lt_of_lt_of_le h1 hS.1) (fun z => h2 (hF q z))]; exact hS.2.1 q h1 h2, fun q hq => by
      rcases List.mem_append.mp hq with h | h
      · exact hS.2.2 q h
      · exact hF _ (hL q h)⟩ T' rfl X'
  exact ⟨t2, st t2 a1, b1⟩
end LZCALL
/-- the k-th int of the script -/
def avS (xs : Nat → Int32) (k : Nat) : Int := (xs k).toInt
theorem avS_rg (xs : Nat → Int32) (k : Nat) : rgA (avS xs k) := by
  have h1 := Int32.le_toInt (xs k)
  have h2 := Int32.toInt_lt (xs k)
  unfold rgA avS
  omega
section LZARM
variable {p : Program} {l : Launch} {e : Env} {R : Room} {s : State} {m : MethodId} {args : Array Value} {below : List Frame} {meth : Method} {c : Code} {H : Heap} {locs : List Loc} {cells slots : Nat} {Q : State → Prop}
variable {pc : Nat} {ls : Array Slot} {rest : List Value} {A0 : Nat → Prop} {b L i qK qM : Nat} {xs : Nat → Int32}
/-- the law's locals in its loop -/
def LZ (ls : Array Slot) (b qK qM i : Nat) : Prop := lv_has ls 4 [(0, .ref b), (1, .ref qK), (2, .ref qM), (3, .int (iI (i : Int)))]
theorem lz_arg (hx : p.tables.exec = Jvm.exec) (hb : c.code = cL_law) (hX : va_X b L xs s s.heap) (hbl : b < s.heap.size) (hbA : ¬ A0 b) (hS : va_S A0 s.heap H locs) (hl : LZ ls b qK qM i) (j : Nat) {jI : Int} (hj : jI = (j : Int)) (hij : i + j < L) (hL : L ≤ 3072)
    (d0 : decode cL_law pc = .ok (.aload_n 0, 1)) (d1 : decode cL_law (pc + 1) = .ok (.iload_n 3, 1)) (d2 : decode cL_law (pc + 2) = .ok (.iconst jI, 1)) (d3 : decode cL_law (pc + 3) = .ok (.iadd, 1)) (d4 : decode cL_law (pc + 4) = .ok (.iaload, 1))
    (kk : W p l e R s m args below meth c H locs cells slots Q (F0 m (pc + 5) ls (.int (iI (avS xs (i + j))) :: rest))) : W p l e R s m args below meth c H locs cells slots Q (F0 m pc ls rest) := by
  subst hj
  refine lv_aload_n hx hb d0 rfl (lv_at hl 0 rfl) ?_
  refine lv_iload_n hx hb d1 rfl (lv_at hl 3 rfl) ?_
  refine k_iconst (n := (j : Int)) hx hb d2 ?_
  refine k_iadd hx hb d3 ?_
  refine va_sld hx hb hX hbl hbA hS (iI_in (n := L) (by omega) (by omega) (by omega)) d4 ?_
  rw [iI_clamp (n := L) (by omega) (by omega) (by omega), show ((i : Int) + (j : Int)).toNat = i + j by omega]
  unfold avS at kk
  rw [iI_of] at kk
  exact kk
end LZARM
