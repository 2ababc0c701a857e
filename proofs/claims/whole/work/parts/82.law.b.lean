/-! ===== the law: one arm of its switch ===== -/
def LzC (p : Program) (s : State) (m : MethodId) (c : Code) (b L : Nat) (xs : Nat → Int32) (D : va_G) (cI cZ cJ : ClassId) (A0 : Nat → Prop) : Prop :=
  CallFix p m c cL_law 4 s #[Value.ref b] wsL_law RL ∧ va_K D vwCl [(cI, .int), (cZ, .boolean), (cJ, .long)] s ∧ (∀ q, s.heap.size ≤ q → A0 q) ∧ ¬ A0 b ∧ va_X b L xs s s.heap ∧ b < s.heap.size ∧ L ≤ 3072
def WL (p : Program) (l : Launch) (e : Env) (s : State) (m : MethodId) (below : List Frame) (meth : Method) (c : Code) (b : Nat) (H : Heap) (locs : List Loc) (g : JFrame) : Prop :=
  W p l e room_1 s m #[Value.ref b] below meth c H locs 62 34818 (lw_Z below #[Value.ref b] s) g
/-- the world of the law at a heap -/
def LH (s : State) (D : va_G) (cI cZ cJ : ClassId) (A0 : Nat → Prop) (qK qM t : Nat) (H : Heap) (locs : List Loc) : Prop :=
  ∃ wa wb, LW cI cZ cJ qK qM t wa wb ∧ va_P D vwCl wa H ∧ va_P D vwCl wb H ∧ AP2 A0 wa wb ∧ va_S A0 s.heap H locs
def LzA (p : Program) (l : Launch) (e : Env) (s : State) (m : MethodId) (below : List Frame) (meth : Method) (c : Code) (b L : Nat) (D : va_G) (cI cZ cJ : ClassId) (A0 : Nat → Prop) (pc : Nat) : Prop :=
  ∀ (qK qM i t : Nat) (H : Heap) (locs : List Loc) (ls : Array Slot), t ≤ 600 → i + 6 ≤ L → LH s D cI cZ cJ A0 qK qM t H locs → LZ ls b qK qM i → (∀ (H1 : Heap) (locs1 : List Loc), LH s D cI cZ cJ A0 qK qM (t + 1) H1 locs1 → WL p l e s m below meth c b H1 locs1 (F0 m 1334 ls [])) → WL p l e s m below meth c b H locs (F0 m pc ls [])
section LZARM2
variable {p : Program} {l : Launch} {e : Env} {s : State} {m : MethodId} {below : List Frame} {meth : Method} {c : Code} {b L i qK qM t : Nat} {xs : Nat → Int32} {H : Heap} {locs : List Loc} {ls : Array Slot} {D : va_G} {cI cZ cJ : ClassId} {A0 : Nat → Prop}
variable {wa wb wa1 wb1 : va_W} {yK yM : MethodName} {bK bM : ByteArray} {mK mM iK iM n : Nat} {eK eM : Option FieldType} {wsK wsM : List Cond} {rmK rmM : Room} {As : List Value} {r : Int32} {pc0 pc1 pc3 : Nat} {off : Int}
theorem lz_armW (C : LzC p s m c b L xs D cI cZ cJ A0) (hl : LZ ls b qK qM i) (ha : (∃ fs, wa[0]? = some (qK, .inr (7, fs))) ∧ ∃ fs, wb[0]? = some (qM, .inr (8, fs))) (hPa : va_P D vwCl wa H) (hPb : va_P D vwCl wb H) (hD : AP2 A0 wa wb) (hS : va_S A0 s.heap H locs)
    (hMK : ∀ sz : Nat, Met l yK wsK rmK (PW D vwCl [(cI, .int), (cZ, .boolean), (cJ, .long)] (.ref qK :: As) wa sz) (QW D vwCl (some (.int r)) wa1 (va_A wa sz)) 0 0 (va_A wa sz)) (hMM : ∀ sz : Nat, Met l yM wsM rmM (PW D vwCl [(cI, .int), (cZ, .boolean), (cJ, .long)] (.ref qM :: As) wb sz) (QW D vwCl (some (.int r)) wb1 (va_A wb sz)) 0 0 (va_A wb sz))
    (h1 : wa1.map Prod.fst = wa.map Prod.fst) (h2 : wb1.map Prod.fst = wb.map Prod.fst) (cK : CallW room_1 s #[Value.ref b] RL RX7 iK yK bK mK eK wsK rmK 0 0 n) (cM : CallW room_1 s #[Value.ref b] RL RX8 iM yM bM mM eM wsM rmM 0 0 n) (hn : As.length = n)
    (pushK : WL p l e s m below meth c b H locs (F0 m pc1 ls (As.reverse ++ [.ref qK])) → WL p l e s m below meth c b H locs (F0 m pc0 ls []))
    (pushM : ∀ (H1 : Heap) (locs1 : List Loc), va_S A0 s.heap H1 locs1 → WL p l e s m below meth c b H1 locs1 (F0 m pc3 ls (As.reverse ++ [.ref qM, .int r])) → WL p l e s m below meth c b H1 locs1 (F0 m (pc1 + 3) ls [.int r]))
    (dK : decode cL_law pc1 = .ok (.invokevirtual iK, 3)) (dM : decode cL_law pc3 = .ok (.invokevirtual iM, 3)) (dE : decode cL_law (pc3 + 3) = .ok (.if_icmp .eq off, 3)) (ht : ((pc3 + 3 : Nat) : Int) + off = ((1334 : Nat) : Int))
    (kk : ∀ (H1 : Heap) (locs1 : List Loc), va_P D vwCl wa1 H1 → va_P D vwCl wb1 H1 → AP2 A0 wa1 wb1 → va_S A0 s.heap H1 locs1 → WL p l e s m below meth c b H1 locs1 (F0 m 1334 ls [])) : WL p l e s m below meth c b H locs (F0 m pc0 ls []) := by
  obtain ⟨S, hK, hA, hbA, hX, hbl, hL⟩ := C
  obtain ⟨⟨fa, ha⟩, fb, hb0⟩ := ha
  refine pushK ?_
  refine lz_w S hK hPa hPb hD hS hA (hMK H.size) cK 0 ha rfl rfl h1 hn hl.1 (rest := []) rfl (lv_room (Nat.le_of_ble_eq_true rfl)) dK ⟨Nat.le_of_ble_eq_true rfl, Nat.le_of_ble_eq_true rfl⟩ (st1 := [.int r]) rfl (fun H1 locs1 qa qb qd qs => ?_)
  refine pushM H1 locs1 qs ?_
  refine lz_w S hK qb qa qd.symm qs hA (hMM H1.size) cM 0 hb0 rfl rfl h2 hn hl.1 (rest := [.int r]) rfl (lv_room (Nat.le_of_ble_eq_true rfl)) dM ⟨Nat.le_of_ble_eq_true rfl, Nat.le_of_ble_eq_true rfl⟩ (st1 := [.int r, .int r]) rfl (fun H2 locs2 qb2 qa2 qd2 qs2 => ?_)
  exact lv_icmp_eq (tgt := 1334) S.1 S.2.1 dE ht (fun _ => kk H2 locs2 qa2 qb2 qd2.symm qs2) (fun h => absurd rfl h)
theorem lz_armR (C : LzC p s m c b L xs D cI cZ cJ A0) (hl : LZ ls b qK qM i) (ha : (∃ fs, wa[0]? = some (qK, .inr (7, fs))) ∧ ∃ fs, wb[0]? = some (qM, .inr (8, fs))) (hPa : va_P D vwCl wa H) (hPb : va_P D vwCl wb H) (hD : AP2 A0 wa wb) (hS : va_S A0 s.heap H locs)
    (hMK : Met l yK wsK rmK (PR D vwCl [(cI, .int), (cZ, .boolean), (cJ, .long)] (.ref qK :: As) wa) (QR (some (.int r))) 0 0 (fun _ => False)) (hMM : ∀ sz : Nat, Met l yM wsM rmM (PW D vwCl [(cI, .int), (cZ, .boolean), (cJ, .long)] (.ref qM :: As) wb sz) (QW D vwCl (some (.int r)) wb1 (va_A wb sz)) 0 0 (va_A wb sz))
    (h2 : wb1.map Prod.fst = wb.map Prod.fst) (cK : CallW room_1 s #[Value.ref b] RL RX7 iK yK bK mK eK wsK rmK 0 0 n) (cM : CallW room_1 s #[Value.ref b] RL RX8 iM yM bM mM eM wsM rmM 0 0 n) (hn : As.length = n)
    (pushK : WL p l e s m below meth c b H locs (F0 m pc1 ls (As.reverse ++ [.ref qK])) → WL p l e s m below meth c b H locs (F0 m pc0 ls []))
    (pushM : ∀ (H1 : Heap) (locs1 : List Loc), va_S A0 s.heap H1 locs1 → WL p l e s m below meth c b H1 locs1 (F0 m pc3 ls (As.reverse ++ [.ref qM, .int r])) → WL p l e s m below meth c b H1 locs1 (F0 m (pc1 + 3) ls [.int r]))
    (dK : decode cL_law pc1 = .ok (.invokevirtual iK, 3)) (dM : decode cL_law pc3 = .ok (.invokevirtual iM, 3)) (dE : decode cL_law (pc3 + 3) = .ok (.if_icmp .eq off, 3)) (ht : ((pc3 + 3 : Nat) : Int) + off = ((1334 : Nat) : Int))
    (kk : ∀ (H1 : Heap) (locs1 : List Loc), va_P D vwCl wa H1 → va_P D vwCl wb1 H1 → AP2 A0 wa wb1 → va_S A0 s.heap H1 locs1 → WL p l e s m below meth c b H1 locs1 (F0 m 1334 ls [])) : WL p l e s m below meth c b H locs (F0 m pc0 ls []) := by
  obtain ⟨S, hK, hA, hbA, hX, hbl, hL⟩ := C
  obtain ⟨⟨fa, ha⟩, fb, hb0⟩ := ha
  refine pushK ?_
  refine k_rV S hK hPa hMK cK 0 ha rfl rfl hn hl.1 (rest := []) rfl (lv_room (Nat.le_of_ble_eq_true rfl)) dK ⟨Nat.le_of_ble_eq_true rfl, Nat.le_of_ble_eq_true rfl⟩ (st1 := [.int r]) rfl ?_
  refine pushM H locs hS ?_
  refine lz_w S hK hPb hPa hD.symm hS hA (hMM H.size) cM 0 hb0 rfl rfl h2 hn hl.1 (rest := [.int r]) rfl (lv_room (Nat.le_of_ble_eq_true rfl)) dM ⟨Nat.le_of_ble_eq_true rfl, Nat.le_of_ble_eq_true rfl⟩ (st1 := [.int r, .int r]) rfl (fun H2 locs2 qb2 qa2 qd2 qs2 => ?_)
  exact lv_icmp_eq (tgt := 1334) S.1 S.2.1 dE ht (fun _ => kk H2 locs2 qa2 qb2 qd2.symm qs2) (fun h => absurd rfl h)
/-- one int of the script onto the stack -/
theorem lz_a (C : LzC p s m c b L xs D cI cZ cJ A0) {pc : Nat} {rest : List Value} (hS : va_S A0 s.heap H locs) (hl : LZ ls b qK qM i) (j : Nat) {jI : Int} (hj : jI = (j : Int)) (hij : i + j < L)
    (d0 : decode cL_law pc = .ok (.aload_n 0, 1)) (d1 : decode cL_law (pc + 1) = .ok (.iload_n 3, 1)) (d2 : decode cL_law (pc + 2) = .ok (.iconst jI, 1)) (d3 : decode cL_law (pc + 3) = .ok (.iadd, 1)) (d4 : decode cL_law (pc + 4) = .ok (.iaload, 1))
    (kk : WL p l e s m below meth c b H locs (F0 m (pc + 5) ls (.int (iI (avS xs (i + j))) :: rest))) : WL p l e s m below meth c b H locs (F0 m pc ls rest) := by
  obtain ⟨S, hK, hA, hbA, hX, hbl, hL⟩ := C
  exact lz_arg S.1 S.2.1 hX hbl hbA hS hl j hj hij hL d0 d1 d2 d3 d4 kk
theorem lz_q (C : LzC p s m c b L xs D cI cZ cJ A0) {pc : Nat} {rest : List Value} (hl : LZ ls b qK qM i) (d0 : decode cL_law pc = .ok (.aload_n 1, 1)) (kk : WL p l e s m below meth c b H locs (F0 m (pc + 1) ls (.ref qK :: rest))) : WL p l e s m below meth c b H locs (F0 m pc ls rest) :=
  lv_aload_n C.1.1 C.1.2.1 d0 rfl (lv_at hl 1 rfl) kk
theorem lz_m (C : LzC p s m c b L xs D cI cZ cJ A0) {pc : Nat} {rest : List Value} (hl : LZ ls b qK qM i) (d0 : decode cL_law pc = .ok (.aload_n 2, 1)) (kk : WL p l e s m below meth c b H locs (F0 m (pc + 1) ls (.ref qM :: rest))) : WL p l e s m below meth c b H locs (F0 m pc ls rest) :=
  lv_aload_n C.1.1 C.1.2.1 d0 rfl (lv_at hl 2 rfl) kk
/-- whether an int is not 0 -/
def nzS (x : Int) : Int := if x = 0 then 0 else 1
theorem nzS_rg (x : Int) : nzS x = 0 ∨ nzS x = 1 := by
  unfold nzS; split
  · exact Or.inl rfl
  · exact Or.inr rfl
theorem lz_z (C : LzC p s m c b L xs D cI cZ cJ A0) {pc : Nat} {rest : List Value} {x : Int} (hx : rgA x) (d0 : decode cL_law pc = .ok (.ifCond .eq 7, 3)) (d1 : decode cL_law (pc + 3) = .ok (.iconst 1, 1)) (d2 : decode cL_law (pc + 4) = .ok (.goto 4, 3)) (d3 : decode cL_law (pc + 7) = .ok (.iconst 0, 1))
    (kk : WL p l e s m below meth c b H locs (F0 m (pc + 8) ls (.int (iI (nzS x)) :: rest))) : WL p l e s m below meth c b H locs (F0 m pc ls (.int (iI x) :: rest)) := by
  have z : iI x = 0 ↔ x = 0 := by
    rw [← iI_zero]
    exact iI_eq ⟨hx.1, by have := hx.2; omega⟩ (by decide)
  refine lv_if_eq (tgt := pc + 7) C.1.1 C.1.2.1 d0 (by omega) (fun h => ?_) (fun h => ?_)
  · rw [show nzS x = 0 by unfold nzS; rw [if_pos (z.mp h)]] at kk
    exact k_iconst (n := 0) C.1.1 C.1.2.1 d3 kk
  · rw [show nzS x = 1 by unfold nzS; rw [if_neg (fun w => h (z.mpr w))]] at kk
    refine k_iconst (n := 1) C.1.1 C.1.2.1 d1 ?_
    exact lv_goto (tgt := pc + 8) C.1.1 C.1.2.1 d2 (by omega) kk
end LZARM2
