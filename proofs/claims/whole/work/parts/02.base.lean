/-! ===== numbers as Int: what a machine's int, long and array is, said over Int ===== -/
def iI (x : Int) : Int32 := Int32.ofInt x
def iL (x : Int) : Int64 := Int64.ofInt x
def mI (f : Int → Int) : Nat → Int32 := fun j => iI (f (j : Int))
def mL (f : Int → Int) : Nat → Int64 := fun j => iL (f (j : Int))
abbrev rg (x : Int) : Prop := -2147483648 ≤ x ∧ x < 2147483648
abbrev rgL (x : Int) : Prop := -9223372036854775808 ≤ x ∧ x < 9223372036854775808
def upA (f : Int → Int) (k v : Int) : Int → Int := fun j => if j = k then v else f j
def cpA (f g : Int → Int) (sp dp n : Int) : Int → Int := fun k => if dp ≤ k ∧ k < dp + n then f (sp + (k - dp)) else g k
/-- checked steps: none where the Int picture and the machine part -/
def cLt {α : Type} (x y : Int) (A B : Option α) : Option α := if rg x ∧ rg y then (if x < y then A else B) else none
def cEq {α : Type} (x y : Int) (A B : Option α) : Option α := if rg x ∧ rg y then (if x = y then A else B) else none
def cLtL {α : Type} (x y : Int) (A B : Option α) : Option α := if rgL x ∧ rgL y then (if x < y then A else B) else none
def cEqL {α : Type} (x y : Int) (A B : Option α) : Option α := if rgL x ∧ rgL y then (if x = y then A else B) else none
def cR {α : Type} (x : Int) (A : Option α) : Option α := if rg x then A else none
def cZ {α : Type} (x : Int) (A : Option α) : Option α := if x = 0 ∨ x = 1 then A else none
def cN {α : Type} (n : Nat) (x : Int) (A : Option α) : Option α := if 0 ≤ x ∧ x < (n : Int) then A else none
def rdA (f : Int → Int) (n : Nat) (x : Int) : Option Int := if 0 ≤ x ∧ x < (n : Int) then some (f x) else none
def iAnd (x y : Int) : Int := (iI x &&& iI y).toInt
def iOr (x y : Int) : Int := (iI x ||| iI y).toInt
def iShl (x y : Int) : Int := (iI x <<< (iI y &&& 31)).toInt
def iShr (x y : Int) : Int := (iI x >>> (iI y &&& 31)).toInt
def iUshr (x y : Int) : Int := ((iI x).toUInt32 >>> ((iI y).toUInt32 &&& Int32.toUInt32 31)).toInt32.toInt
def iDiv (x y : Int) : Int := (iI x / iI y).toInt
def iRem (x y : Int) : Int := (iI x - iI x / iI y * iI y).toInt
def lAnd (x y : Int) : Int := (iL x &&& iL y).toInt
def lOr (x y : Int) : Int := (iL x ||| iL y).toInt
def lXor (x y : Int) : Int := (iL x ^^^ iL y).toInt
def lShl (x y : Int) : Int := (iL x <<< ((iI y).toInt64 &&& 63)).toInt
def lUshr (x y : Int) : Int := ((iL x).toUInt64 >>> ((iI y).toInt64.toUInt64 &&& Int64.toUInt64 63)).toInt64.toInt
def iMax (x y : Int) : Int := if x < y then y else x
def iMin (x y : Int) : Int := if y < x then y else x
theorem iI_toInt {x : Int} (h : rg x) : (iI x).toInt = x := Int32.toInt_ofInt_of_le h.1 h.2
theorem iL_toInt {x : Int} (h : rgL x) : (iL x).toInt = x := Int64.toInt_ofInt_of_le h.1 h.2
theorem iI_of (z : Int32) : iI z.toInt = z := Int32.ofInt_toInt z
theorem iL_of (z : Int64) : iL z.toInt = z := Int64.ofInt_toInt z
theorem iI_add (x y : Int) : iI x + iI y = iI (x + y) := (Int32.ofInt_add x y).symm
theorem iI_sub (x y : Int) : iI x - iI y = iI (x - y) := (Int32.ofInt_sub x y).symm
theorem iI_mul (x y : Int) : iI x * iI y = iI (x * y) := (Int32.ofInt_mul x y).symm
theorem iI_neg (x : Int) : - iI x = iI (- x) := (Int32.ofInt_neg x).symm
theorem iL_add (x y : Int) : iL x + iL y = iL (x + y) := (Int64.ofInt_add x y).symm
theorem iL_sub (x y : Int) : iL x - iL y = iL (x - y) := (Int64.ofInt_sub x y).symm
theorem iL_mul (x y : Int) : iL x * iL y = iL (x * y) := (Int64.ofInt_mul x y).symm
theorem iI_lt {x y : Int} (hx : rg x) (hy : rg y) : iI x < iI y ↔ x < y := by
  rw [Int32.lt_iff_toInt_lt, iI_toInt hx, iI_toInt hy]
theorem iI_le {x y : Int} (hx : rg x) (hy : rg y) : iI x ≤ iI y ↔ x ≤ y := by
  rw [Int32.le_iff_toInt_le, iI_toInt hx, iI_toInt hy]
theorem iI_eq {x y : Int} (hx : rg x) (hy : rg y) : iI x = iI y ↔ x = y := by
  rw [← Int32.toInt_inj, iI_toInt hx, iI_toInt hy]
theorem iL_lt {x y : Int} (hx : rgL x) (hy : rgL y) : iL x < iL y ↔ x < y := by
  rw [Int64.lt_iff_toInt_lt, iL_toInt hx, iL_toInt hy]
theorem iL_le {x y : Int} (hx : rgL x) (hy : rgL y) : iL x ≤ iL y ↔ x ≤ y := by
  rw [Int64.le_iff_toInt_le, iL_toInt hx, iL_toInt hy]
theorem iL_eq {x y : Int} (hx : rgL x) (hy : rgL y) : iL x = iL y ↔ x = y := by
  rw [← Int64.toInt_inj, iL_toInt hx, iL_toInt hy]
theorem iI_zero : iI 0 = 0 := rfl
theorem iI_l {x : Int} (h : rg x) : (iI x).toInt64 = iL x := by
  have h2 : (iI x).toInt64.toInt = x := by rw [Int32.toInt_toInt64, iI_toInt h]
  rw [← iL_of (iI x).toInt64, h2]
theorem iL_i (x : Int) : (iL x).toInt32 = iI x := Int64.toInt32_ofInt
theorem iI_clamp {x : Int} {n : Nat} (hn : n ≤ 2147483647) (h0 : 0 ≤ x) (h1 : x < (n : Int)) : (iI x).toNatClampNeg = x.toNat := by
  have h : (iI x).toInt = x := iI_toInt ⟨by omega, by omega⟩
  show (iI x).toInt.toNat = x.toNat
  rw [h]
theorem iI_in {x : Int} {n : Nat} (hn : n ≤ 2147483647) (h0 : 0 ≤ x) (h1 : x < (n : Int)) : vp_in (iI x) n := by
  rw [vp_in_iff, iI_toInt ⟨by omega, by omega⟩]
  exact ⟨h0, h1⟩
theorem mI_at {f : Int → Int} {x : Int} {n : Nat} (hn : n ≤ 2147483647) (h0 : 0 ≤ x) (h1 : x < (n : Int)) : mI f (iI x).toNatClampNeg = iI (f x) := by
  rw [iI_clamp hn h0 h1]
  show iI (f (x.toNat : Int)) = _
  rw [Int.toNat_of_nonneg h0]
theorem mL_at {f : Int → Int} {x : Int} {n : Nat} (hn : n ≤ 2147483647) (h0 : 0 ≤ x) (h1 : x < (n : Int)) : mL f (iI x).toNatClampNeg = iL (f x) := by
  rw [iI_clamp hn h0 h1]
  show iL (f (x.toNat : Int)) = _
  rw [Int.toNat_of_nonneg h0]
theorem mI_up {f : Int → Int} {x v : Int} {n : Nat} (hn : n ≤ 2147483647) (h0 : 0 ≤ x) (h1 : x < (n : Int)) : upd (mI f) (iI x).toNatClampNeg (iI v) = mI (upA f x v) := by
  rw [iI_clamp hn h0 h1]
  funext j
  by_cases h : j = x.toNat
  · have h2 : (j : Int) = x := by omega
    simp only [upd, mI, upA, if_pos h, if_pos h2]
  · have h2 : ¬ (j : Int) = x := by omega
    simp only [upd, mI, upA, if_neg h, if_neg h2]
theorem mL_up {f : Int → Int} {x v : Int} {n : Nat} (hn : n ≤ 2147483647) (h0 : 0 ≤ x) (h1 : x < (n : Int)) : vp_updL (mL f) (iI x).toNatClampNeg (iL v) = mL (upA f x v) := by
  rw [iI_clamp hn h0 h1]
  funext j
  by_cases h : j = x.toNat
  · have h2 : (j : Int) = x := by omega
    simp only [vp_updL, mL, upA, if_pos h, if_pos h2]
  · have h2 : ¬ (j : Int) = x := by omega
    simp only [vp_updL, mL, upA, if_neg h, if_neg h2]
/-! ===== what a checked step says ===== -/
theorem cLt_some {α : Type} {x y : Int} {A B : Option α} {r : α} (h : cLt x y A B = some r) : rg x ∧ rg y ∧ ((x < y ∧ A = some r) ∨ (¬ x < y ∧ B = some r)) := by
  unfold cLt at h
  split at h
  · rename_i hr
    refine ⟨hr.1, hr.2, ?_⟩
    split at h
    · exact Or.inl ⟨‹_›, h⟩
    · exact Or.inr ⟨‹_›, h⟩
  · cases h
theorem cEq_some {α : Type} {x y : Int} {A B : Option α} {r : α} (h : cEq x y A B = some r) : rg x ∧ rg y ∧ ((x = y ∧ A = some r) ∨ (¬ x = y ∧ B = some r)) := by
  unfold cEq at h
  split at h
  · rename_i hr
    refine ⟨hr.1, hr.2, ?_⟩
    split at h
    · exact Or.inl ⟨‹_›, h⟩
    · exact Or.inr ⟨‹_›, h⟩
  · cases h
theorem cLtL_some {α : Type} {x y : Int} {A B : Option α} {r : α} (h : cLtL x y A B = some r) : rgL x ∧ rgL y ∧ ((x < y ∧ A = some r) ∨ (¬ x < y ∧ B = some r)) := by
  unfold cLtL at h
  split at h
  · rename_i hr
    refine ⟨hr.1, hr.2, ?_⟩
    split at h
    · exact Or.inl ⟨‹_›, h⟩
    · exact Or.inr ⟨‹_›, h⟩
  · cases h
theorem cEqL_some {α : Type} {x y : Int} {A B : Option α} {r : α} (h : cEqL x y A B = some r) : rgL x ∧ rgL y ∧ ((x = y ∧ A = some r) ∨ (¬ x = y ∧ B = some r)) := by
  unfold cEqL at h
  split at h
  · rename_i hr
    refine ⟨hr.1, hr.2, ?_⟩
    split at h
    · exact Or.inl ⟨‹_›, h⟩
    · exact Or.inr ⟨‹_›, h⟩
  · cases h
theorem cR_some {α : Type} {x : Int} {A : Option α} {r : α} (h : cR x A = some r) : rg x ∧ A = some r := by
  unfold cR at h
  split at h
  · exact ⟨‹_›, h⟩
  · cases h
theorem cZ_some {α : Type} {x : Int} {A : Option α} {r : α} (h : cZ x A = some r) : (x = 0 ∨ x = 1) ∧ A = some r := by
  unfold cZ at h
  split at h
  · exact ⟨‹_›, h⟩
  · cases h
theorem cN_some {α : Type} {n : Nat} {x : Int} {A : Option α} {r : α} (h : cN n x A = some r) : 0 ≤ x ∧ x < (n : Int) ∧ A = some r := by
  unfold cN at h
  split at h
  · rename_i hh
    exact ⟨hh.1, hh.2, h⟩
  · cases h
theorem rdA_some {α : Type} {f : Int → Int} {n : Nat} {x : Int} {K : Int → Option α} {r : α} (h : (rdA f n x).bind K = some r) : 0 ≤ x ∧ x < (n : Int) ∧ K (f x) = some r := by
  unfold rdA at h
  split at h
  · rename_i hh
    exact ⟨hh.1, hh.2, h⟩
  · cases h
theorem bd_some {α β : Type} {m : Option α} {K : α → Option β} {r : β} (h : m.bind K = some r) : ∃ a, m = some a ∧ K a = some r := by
  cases m with
  | none => cases h
  | some a => exact ⟨a, rfl, h⟩
theorem narZ {v : Int} (h : v = 0 ∨ v = 1) : narrow .boolean (.int (iI v)) = .int (iI v) := by
  rcases h with rfl | rfl <;> decide
theorem fitsZ {v : Int} (h : v = 0 ∨ v = 1) : fits .boolean (.int (iI v)) = true := by
  rcases h with rfl | rfl <;> decide
theorem vnarZ {v : Int} (h : v = 0 ∨ v = 1) : vp_nar .boolean (iI v) = iI v := by
  rcases h with rfl | rfl <;> decide
/-! ===== rows of the machine, over Int ===== -/
section KROWS
variable {p : Program} {l : Launch} {e : Env} {R : Room} {s : State} {m : MethodId} {args : Array Value} {below : List Frame} {meth : Method} {c : Code} {H : Heap} {locs : List Loc} {cells slots : Nat} {Q : State → Prop}
variable {cc : ByteArray} {pc : Nat} {ls : Array Slot} {rest : List Value}
theorem k_iadd (hx : p.tables.exec = Jvm.exec) (hb : c.code = cc) {x y : Int} (hdg : decode cc pc = .ok (.iadd, 1)) (k : W p l e R s m args below meth c H locs cells slots Q (F0 m (pc + 1) ls (.int (iI (x + y)) :: rest))) : W p l e R s m args below meth c H locs cells slots Q (F0 m pc ls (.int (iI y) :: .int (iI x) :: rest)) := lv_iadd hx hb hdg (by rw [iI_add]; exact k)
theorem k_isub (hx : p.tables.exec = Jvm.exec) (hb : c.code = cc) {x y : Int} (hdg : decode cc pc = .ok (.isub, 1)) (k : W p l e R s m args below meth c H locs cells slots Q (F0 m (pc + 1) ls (.int (iI (x - y)) :: rest))) : W p l e R s m args below meth c H locs cells slots Q (F0 m pc ls (.int (iI y) :: .int (iI x) :: rest)) := lv_isub hx hb hdg (by rw [iI_sub]; exact k)
theorem k_imul (hx : p.tables.exec = Jvm.exec) (hb : c.code = cc) {x y : Int} (hdg : decode cc pc = .ok (.imul, 1)) (k : W p l e R s m args below meth c H locs cells slots Q (F0 m (pc + 1) ls (.int (iI (x * y)) :: rest))) : W p l e R s m args below meth c H locs cells slots Q (F0 m pc ls (.int (iI y) :: .int (iI x) :: rest)) := lv_imul hx hb hdg (by rw [iI_mul]; exact k)
theorem k_ineg (hx : p.tables.exec = Jvm.exec) (hb : c.code = cc) {x : Int} (hdg : decode cc pc = .ok (.ineg, 1)) (k : W p l e R s m args below meth c H locs cells slots Q (F0 m (pc + 1) ls (.int (iI (- x)) :: rest))) : W p l e R s m args below meth c H locs cells slots Q (F0 m pc ls (.int (iI x) :: rest)) := lv_ineg hx hb hdg (by rw [iI_neg]; exact k)
theorem k_iand (hx : p.tables.exec = Jvm.exec) (hb : c.code = cc) {x y : Int} (hdg : decode cc pc = .ok (.iand, 1)) (k : W p l e R s m args below meth c H locs cells slots Q (F0 m (pc + 1) ls (.int (iI (iAnd x y)) :: rest))) : W p l e R s m args below meth c H locs cells slots Q (F0 m pc ls (.int (iI y) :: .int (iI x) :: rest)) := lv_iand hx hb hdg (by rw [iAnd, iI_of] at k; exact k)
theorem k_ior (hx : p.tables.exec = Jvm.exec) (hb : c.code = cc) {x y : Int} (hdg : decode cc pc = .ok (.ior, 1)) (k : W p l e R s m args below meth c H locs cells slots Q (F0 m (pc + 1) ls (.int (iI (iOr x y)) :: rest))) : W p l e R s m args below meth c H locs cells slots Q (F0 m pc ls (.int (iI y) :: .int (iI x) :: rest)) := lv_ior hx hb hdg (by rw [iOr, iI_of] at k; exact k)
theorem k_ishl (hx : p.tables.exec = Jvm.exec) (hb : c.code = cc) {x y : Int} (hdg : decode cc pc = .ok (.ishl, 1)) (k : W p l e R s m args below meth c H locs cells slots Q (F0 m (pc + 1) ls (.int (iI (iShl x y)) :: rest))) : W p l e R s m args below meth c H locs cells slots Q (F0 m pc ls (.int (iI y) :: .int (iI x) :: rest)) := lv_ishl hx hb hdg (by rw [iShl, iI_of] at k; exact k)
theorem k_ishr (hx : p.tables.exec = Jvm.exec) (hb : c.code = cc) {x y : Int} (hdg : decode cc pc = .ok (.ishr, 1)) (k : W p l e R s m args below meth c H locs cells slots Q (F0 m (pc + 1) ls (.int (iI (iShr x y)) :: rest))) : W p l e R s m args below meth c H locs cells slots Q (F0 m pc ls (.int (iI y) :: .int (iI x) :: rest)) := lv_ishr hx hb hdg (by rw [iShr, iI_of] at k; exact k)
theorem k_iushr (hx : p.tables.exec = Jvm.exec) (hb : c.code = cc) {x y : Int} (hdg : decode cc pc = .ok (.iushr, 1)) (k : W p l e R s m args below meth c H locs cells slots Q (F0 m (pc + 1) ls (.int (iI (iUshr x y)) :: rest))) : W p l e R s m args below meth c H locs cells slots Q (F0 m pc ls (.int (iI y) :: .int (iI x) :: rest)) := lv_iushr hx hb hdg rfl (by rw [iUshr, iI_of] at k; exact k)
theorem k_idiv (hx : p.tables.exec = Jvm.exec) (hb : c.code = cc) {x y : Int} (hdg : decode cc pc = .ok (.idiv, 1)) (hne : ¬ iI y = 0) (k : W p l e R s m args below meth c H locs cells slots Q (F0 m (pc + 1) ls (.int (iI (iDiv x y)) :: rest))) : W p l e R s m args below meth c H locs cells slots Q (F0 m pc ls (.int (iI y) :: .int (iI x) :: rest)) := lv_idiv hx hb hdg hne (by rw [iDiv, iI_of] at k; exact k)
theorem k_irem (hx : p.tables.exec = Jvm.exec) (hb : c.code = cc) {x y : Int} (hdg : decode cc pc = .ok (.irem, 1)) (hne : ¬ iI y = 0) (k : W p l e R s m args below meth c H locs cells slots Q (F0 m (pc + 1) ls (.int (iI (iRem x y)) :: rest))) : W p l e R s m args below meth c H locs cells slots Q (F0 m pc ls (.int (iI y) :: .int (iI x) :: rest)) := lv_irem hx hb hdg hne (by rw [iRem, iI_of] at k; exact k)
theorem k_ladd (hx : p.tables.exec = Jvm.exec) (hb : c.code = cc) {x y : Int} (hdg : decode cc pc = .ok (.ladd, 1)) (k : W p l e R s m args below meth c H locs cells slots Q (F0 m (pc + 1) ls (.long (iL (x + y)) :: rest))) : W p l e R s m args below meth c H locs cells slots Q (F0 m pc ls (.long (iL y) :: .long (iL x) :: rest)) := lv_ladd hx hb hdg (by rw [iL_add]; exact k)
theorem k_lsub (hx : p.tables.exec = Jvm.exec) (hb : c.code = cc) {x y : Int} (hdg : decode cc pc = .ok (.lsub, 1)) (k : W p l e R s m args below meth c H locs cells slots Q (F0 m (pc + 1) ls (.long (iL (x - y)) :: rest))) : W p l e R s m args below meth c H locs cells slots Q (F0 m pc ls (.long (iL y) :: .long (iL x) :: rest)) := lv_lsub hx hb hdg (by rw [iL_sub]; exact k)
theorem k_lmul (hx : p.tables.exec = Jvm.exec) (hb : c.code = cc) {x y : Int} (hdg : decode cc pc = .ok (.lmul, 1)) (k : W p l e R s m args below meth c H locs cells slots Q (F0 m (pc + 1) ls (.long (iL (x * y)) :: rest))) : W p l e R s m args below meth c H locs cells slots Q (F0 m pc ls (.long (iL y) :: .long (iL x) :: rest)) := lv_lmul hx hb hdg (by rw [iL_mul]; exact k)
theorem k_land (hx : p.tables.exec = Jvm.exec) (hb : c.code = cc) {x y : Int} (hdg : decode cc pc = .ok (.land, 1)) (k : W p l e R s m args below meth c H locs cells slots Q (F0 m (pc + 1) ls (.long (iL (lAnd x y)) :: rest))) : W p l e R s m args below meth c H locs cells slots Q (F0 m pc ls (.long (iL y) :: .long (iL x) :: rest)) := lv_land hx hb hdg (by rw [lAnd, iL_of] at k; exact k)
theorem k_lor (hx : p.tables.exec = Jvm.exec) (hb : c.code = cc) {x y : Int} (hdg : decode cc pc = .ok (.lor, 1)) (k : W p l e R s m args below meth c H locs cells slots Q (F0 m (pc + 1) ls (.long (iL (lOr x y)) :: rest))) : W p l e R s m args below meth c H locs cells slots Q (F0 m pc ls (.long (iL y) :: .long (iL x) :: rest)) := lv_lor hx hb hdg (by rw [lOr, iL_of] at k; exact k)
theorem k_lxor (hx : p.tables.exec = Jvm.exec) (hb : c.code = cc) {x y : Int} (hdg : decode cc pc = .ok (.lxor, 1)) (k : W p l e R s m args below meth c H locs cells slots Q (F0 m (pc + 1) ls (.long (iL (lXor x y)) :: rest))) : W p l e R s m args below meth c H locs cells slots Q (F0 m pc ls (.long (iL y) :: .long (iL x) :: rest)) := lv_lxor hx hb hdg (by rw [lXor, iL_of] at k; exact k)
theorem k_lshl (hx : p.tables.exec = Jvm.exec) (hb : c.code = cc) {x y : Int} (hdg : decode cc pc = .ok (.lshl, 1)) (k : W p l e R s m args below meth c H locs cells slots Q (F0 m (pc + 1) ls (.long (iL (lShl x y)) :: rest))) : W p l e R s m args below meth c H locs cells slots Q (F0 m pc ls (.int (iI y) :: .long (iL x) :: rest)) := lv_lshl hx hb hdg rfl (by rw [lShl, iL_of] at k; exact k)
theorem k_lushr (hx : p.tables.exec = Jvm.exec) (hb : c.code = cc) {x y : Int} (hdg : decode cc pc = .ok (.lushr, 1)) (k : W p l e R s m args below meth c H locs cells slots Q (F0 m (pc + 1) ls (.long (iL (lUshr x y)) :: rest))) : W p l e R s m args below meth c H locs cells slots Q (F0 m pc ls (.int (iI y) :: .long (iL x) :: rest)) := lv_lushr hx hb hdg rfl (by rw [lUshr, iL_of] at k; exact k)
theorem k_l2i (hx : p.tables.exec = Jvm.exec) (hb : c.code = cc) {x : Int} (hdg : decode cc pc = .ok (.l2i, 1)) (k : W p l e R s m args below meth c H locs cells slots Q (F0 m (pc + 1) ls (.int (iI x) :: rest))) : W p l e R s m args below meth c H locs cells slots Q (F0 m pc ls (.long (iL x) :: rest)) := lv_l2i hx hb hdg (iL_i x) k
theorem k_i2l (hx : p.tables.exec = Jvm.exec) (hb : c.code = cc) {x : Int} {α : Type} {A : Option α} {r : α} (hs : cR x A = some r) (hdg : decode cc pc = .ok (.i2l, 1)) (k : A = some r → W p l e R s m args below meth c H locs cells slots Q (F0 m (pc + 1) ls (.long (iL x) :: rest))) : W p l e R s m args below meth c H locs cells slots Q (F0 m pc ls (.int (iI x) :: rest)) :=
  lv_i2l hx hb hdg (iI_l (cR_some hs).1) (k (cR_some hs).2)
theorem k_bipush (hx : p.tables.exec = Jvm.exec) (hb : c.code = cc) {n : Int} (hv : (Int8.ofInt n).toInt32 = iI n) (hdg : decode cc pc = .ok (.bipush n, 2)) (k : W p l e R s m args below meth c H locs cells slots Q (F0 m (pc + 2) ls (.int (iI n) :: rest))) : W p l e R s m args below meth c H locs cells slots Q (F0 m pc ls rest) := lv_bipush hx hb hdg hv k
theorem k_sipush (hx : p.tables.exec = Jvm.exec) (hb : c.code = cc) {n : Int} (hv : (Int16.ofInt n).toInt32 = iI n) (hdg : decode cc pc = .ok (.sipush n, 3)) (k : W p l e R s m args below meth c H locs cells slots Q (F0 m (pc + 3) ls (.int (iI n) :: rest))) : W p l e R s m args below meth c H locs cells slots Q (F0 m pc ls rest) := lv_sipush hx hb hdg hv k
theorem k_iconst (hx : p.tables.exec = Jvm.exec) (hb : c.code = cc) {n : Int} (hdg : decode cc pc = .ok (.iconst n, 1)) (k : W p l e R s m args below meth c H locs cells slots Q (F0 m (pc + 1) ls (.int (iI n) :: rest))) : W p l e R s m args below meth c H locs cells slots Q (F0 m pc ls rest) := lv_iconst hx hb hdg rfl k
theorem k_lconst (hx : p.tables.exec = Jvm.exec) (hb : c.code = cc) {n : Fin 2} {v : Int} (hv : Int64.ofNat (n : Nat) = iL v) (hdg : decode cc pc = .ok (.lconst n, 1)) (k : W p l e R s m args below meth c H locs cells slots Q (F0 m (pc + 1) ls (.long (iL v) :: rest))) : W p l e R s m args below meth c H locs cells slots Q (F0 m pc ls rest) := lv_lconst hx hb hdg hv k
theorem k_ldc2 (hx : p.tables.exec = Jvm.exec) (hb : c.code = cc) {own : String} {index : Nat} {v : Int64} {n : Int} (hv : v = iL n) (hown : s.vm.findClass own = some m.cls) (hconst : (Jvm.Cond.constantLong own index v).before args s = true) (hdg : decode cc pc = .ok (.ldc2_w index, 3)) (k : W p l e R s m args below meth c H locs cells slots Q (F0 m (pc + 3) ls (.long (iL n) :: rest))) : W p l e R s m args below meth c H locs cells slots Q (F0 m pc ls rest) := lv_ldc2 hx hb hown hconst hdg (by rw [hv]; exact k)
theorem k_iinc (hx : p.tables.exec = Jvm.exec) (hb : c.code = cc) {i nL k : Nat} {n : Int} {x : Int} {lv lv' : List (Nat × Value)} (hdg : decode cc pc = .ok (.iinc i n, 3)) (h : lv_has ls nL lv) (hk : lv[k]? = some (i, .int (iI x))) (hn : i < nL) (hl : (i, Value.int (iI (x + n))) :: lv.filter (fun q => !(q.1 == i) && !(q.1 + 1 == i && q.2.category == 2)) = lv')
    (kk : ∀ ls' : Array Slot, lv_has ls' nL lv' → W p l e R s m args below meth c H locs cells slots Q (F0 m (pc + 3) ls' rest)) : W p l e R s m args below meth c H locs cells slots Q (F0 m pc ls rest) := lv_iinc hx hb hdg h hk (iI_add x n) hn hl kk
-- branches
variable {α : Type} {A B : Option α} {r : α} {x y : Int} {off : Int} {tgt : Nat}
theorem k_icmp_ge (hx : p.tables.exec = Jvm.exec) (hb : c.code = cc) (hs : cLt x y A B = some r) (hdg : decode cc pc = .ok (.if_icmp .ge off, 3)) (ht : (pc : Int) + off = (tgt : Int)) (kf : A = some r → W p l e R s m args below meth c H locs cells slots Q (F0 m (pc + 3) ls rest)) (kt : B = some r → W p l e R s m args below meth c H locs cells slots Q (F0 m tgt ls rest)) : W p l e R s m args below meth c H locs cells slots Q (F0 m pc ls (.int (iI y) :: .int (iI x) :: rest)) := by
  obtain ⟨h1, h2, h | h⟩ := cLt_some hs
  · exact lv_icmp_ge hx hb hdg ht (fun q => absurd ((iI_le h2 h1).mp q) (by omega)) (fun _ => kf h.2)
  · exact lv_icmp_ge hx hb hdg ht (fun _ => kt h.2) (fun q => absurd ((iI_le h2 h1).mpr (by omega)) q)
theorem k_icmp_lt (hx : p.tables.exec = Jvm.exec) (hb : c.code = cc) (hs : cLt x y A B = some r) (hdg : decode cc pc = .ok (.if_icmp .lt off, 3)) (ht : (pc : Int) + off = (tgt : Int)) (kt : A = some r → W p l e R s m args below meth c H locs cells slots Q (F0 m tgt ls rest)) (kf : B = some r → W p l e R s m args below meth c H locs cells slots Q (F0 m (pc + 3) ls rest)) : W p l e R s m args below meth c H locs cells slots Q (F0 m pc ls (.int (iI y) :: .int (iI x) :: rest)) := by
  obtain ⟨h1, h2, h | h⟩ := cLt_some hs
  · exact lv_icmp_lt hx hb hdg ht (fun _ => kt h.2) (fun q => absurd ((iI_lt h1 h2).mpr h.1) q)
  · exact lv_icmp_lt hx hb hdg ht (fun q => absurd ((iI_lt h1 h2).mp q) h.1) (fun _ => kf h.2)
theorem k_icmp_gt (hx : p.tables.exec = Jvm.exec) (hb : c.code = cc) (hs : cLt y x A B = some r) (hdg : decode cc pc = .ok (.if_icmp .gt off, 3)) (ht : (pc : Int) + off = (tgt : Int)) (kt : A = some r → W p l e R s m args below meth c H locs cells slots Q (F0 m tgt ls rest)) (kf : B = some r → W p l e R s m args below meth c H locs cells slots Q (F0 m (pc + 3) ls rest)) : W p l e R s m args below meth c H locs cells slots Q (F0 m pc ls (.int (iI y) :: .int (iI x) :: rest)) := by
  obtain ⟨h1, h2, h | h⟩ := cLt_some hs
  · exact lv_icmp_gt hx hb hdg ht (fun _ => kt h.2) (fun q => absurd ((iI_lt h1 h2).mpr h.1) q)
  · exact lv_icmp_gt hx hb hdg ht (fun q => absurd ((iI_lt h1 h2).mp q) h.1) (fun _ => kf h.2)
theorem k_icmp_le (hx : p.tables.exec = Jvm.exec) (hb : c.code = cc) (hs : cLt y x A B = some r) (hdg : decode cc pc = .ok (.if_icmp .le off, 3)) (ht : (pc : Int) + off = (tgt : Int)) (kf : A = some r → W p l e R s m args below meth c H locs cells slots Q (F0 m (pc + 3) ls rest)) (kt : B = some r → W p l e R s m args below meth c H locs cells slots Q (F0 m tgt ls rest)) : W p l e R s m args below meth c H locs cells slots Q (F0 m pc ls (.int (iI y) :: .int (iI x) :: rest)) := by
  obtain ⟨h1, h2, h | h⟩ := cLt_some hs
  · exact lv_icmp_le hx hb hdg ht (fun q => absurd ((iI_le h2 h1).mp q) (by omega)) (fun _ => kf h.2)
  · exact lv_icmp_le hx hb hdg ht (fun _ => kt h.2) (fun q => absurd ((iI_le h2 h1).mpr (by omega)) q)
theorem k_icmp_eq (hx : p.tables.exec = Jvm.exec) (hb : c.code = cc) (hs : cEq x y A B = some r) (hdg : decode cc pc = .ok (.if_icmp .eq off, 3)) (ht : (pc : Int) + off = (tgt : Int)) (kt : A = some r → W p l e R s m args below meth c H locs cells slots Q (F0 m tgt ls rest)) (kf : B = some r → W p l e R s m args below meth c H locs cells slots Q (F0 m (pc + 3) ls rest)) : W p l e R s m args below meth c H locs cells slots Q (F0 m pc ls (.int (iI y) :: .int (iI x) :: rest)) := by
  obtain ⟨h1, h2, h | h⟩ := cEq_some hs
  · exact lv_icmp_eq hx hb hdg ht (fun _ => kt h.2) (fun q => absurd ((iI_eq h1 h2).mpr h.1) q)
  · exact lv_icmp_eq hx hb hdg ht (fun q => absurd ((iI_eq h1 h2).mp q) h.1) (fun _ => kf h.2)
theorem k_icmp_ne (hx : p.tables.exec = Jvm.exec) (hb : c.code = cc) (hs : cEq x y A B = some r) (hdg : decode cc pc = .ok (.if_icmp .ne off, 3)) (ht : (pc : Int) + off = (tgt : Int)) (kf : A = some r → W p l e R s m args below meth c H locs cells slots Q (F0 m (pc + 3) ls rest)) (kt : B = some r → W p l e R s m args below meth c H locs cells slots Q (F0 m tgt ls rest)) : W p l e R s m args below meth c H locs cells slots Q (F0 m pc ls (.int (iI y) :: .int (iI x) :: rest)) := by
  obtain ⟨h1, h2, h | h⟩ := cEq_some hs
  · exact lv_icmp_ne hx hb hdg ht (fun q => absurd ((iI_eq h1 h2).mpr h.1) q) (fun _ => kf h.2)
  · exact lv_icmp_ne hx hb hdg ht (fun _ => kt h.2) (fun q => absurd ((iI_eq h1 h2).mp q) h.1)
end KROWS
section KROWS2
variable {p : Program} {l : Launch} {e : Env} {R : Room} {s : State} {m : MethodId} {args : Array Value} {below : List Frame} {meth : Method} {c : Code} {H : Heap} {locs : List Loc} {cells slots : Nat} {Q : State → Prop}
variable {cc : ByteArray} {pc : Nat} {ls : Array Slot} {rest : List Value}

variable {α : Type} {A B : Option α} {r : α} {x y : Int} {off : Int} {tgt : Nat}
theorem k_if_ge (hx : p.tables.exec = Jvm.exec) (hb : c.code = cc) (hs : cLt x 0 A B = some r) (hdg : decode cc pc = .ok (.ifCond .ge off, 3)) (ht : (pc : Int) + off = (tgt : Int)) (ka : A = some r → W p l e R s m args below meth c H locs cells slots Q (F0 m (pc + 3) ls rest)) (kb : B = some r → W p l e R s m args below meth c H locs cells slots Q (F0 m tgt ls rest)) : W p l e R s m args below meth c H locs cells slots Q (F0 m pc ls (.int (iI x) :: rest)) := by
  obtain ⟨h1, -, h | h⟩ := cLt_some hs
  · exact lv_if_ge hx hb hdg ht (fun q => absurd ((iI_le (show rg 0 by decide) h1).mp q) (by omega)) (fun _ => ka h.2)
  · exact lv_if_ge hx hb hdg ht (fun _ => kb h.2) (fun q => absurd ((iI_le (show rg 0 by decide) h1).mpr (by omega)) q)
theorem k_if_lt (hx : p.tables.exec = Jvm.exec) (hb : c.code = cc) (hs : cLt x 0 A B = some r) (hdg : decode cc pc = .ok (.ifCond .lt off, 3)) (ht : (pc : Int) + off = (tgt : Int)) (ka : A = some r → W p l e R s m args below meth c H locs cells slots Q (F0 m tgt ls rest)) (kb : B = some r → W p l e R s m args below meth c H locs cells slots Q (F0 m (pc + 3) ls rest)) : W p l e R s m args below meth c H locs cells slots Q (F0 m pc ls (.int (iI x) :: rest)) := by
  obtain ⟨h1, -, h | h⟩ := cLt_some hs
  · exact lv_if_lt hx hb hdg ht (fun _ => ka h.2) (fun q => absurd ((iI_lt h1 (show rg 0 by decide)).mpr h.1) q)
  · exact lv_if_lt hx hb hdg ht (fun q => absurd ((iI_lt h1 (show rg 0 by decide)).mp q) h.1) (fun _ => kb h.2)
theorem k_if_gt (hx : p.tables.exec = Jvm.exec) (hb : c.code = cc) (hs : cLt 0 x A B = some r) (hdg : decode cc pc = .ok (.ifCond .gt off, 3)) (ht : (pc : Int) + off = (tgt : Int)) (ka : A = some r → W p l e R s m args below meth c H locs cells slots Q (F0 m tgt ls rest)) (kb : B = some r → W p l e R s m args below meth c H locs cells slots Q (F0 m (pc + 3) ls rest)) : W p l e R s m args below meth c H locs cells slots Q (F0 m pc ls (.int (iI x) :: rest)) := by
  obtain ⟨-, h1, h | h⟩ := cLt_some hs
  · exact lv_if_gt hx hb hdg ht (fun _ => ka h.2) (fun q => absurd ((iI_lt (show rg 0 by decide) h1).mpr h.1) q)
  · exact lv_if_gt hx hb hdg ht (fun q => absurd ((iI_lt (show rg 0 by decide) h1).mp q) h.1) (fun _ => kb h.2)
theorem k_if_le (hx : p.tables.exec = Jvm.exec) (hb : c.code = cc) (hs : cLt 0 x A B = some r) (hdg : decode cc pc = .ok (.ifCond .le off, 3)) (ht : (pc : Int) + off = (tgt : Int)) (ka : A = some r → W p l e R s m args below meth c H locs cells slots Q (F0 m (pc + 3) ls rest)) (kb : B = some r → W p l e R s m args below meth c H locs cells slots Q (F0 m tgt ls rest)) : W p l e R s m args below meth c H locs cells slots Q (F0 m pc ls (.int (iI x) :: rest)) := by
  obtain ⟨-, h1, h | h⟩ := cLt_some hs
  · exact lv_if_le hx hb hdg ht (fun q => absurd ((iI_le h1 (show rg 0 by decide)).mp q) (by omega)) (fun _ => ka h.2)
  · exact lv_if_le hx hb hdg ht (fun _ => kb h.2) (fun q => absurd ((iI_le h1 (show rg 0 by decide)).mpr (by omega)) q)
theorem k_if_eq (hx : p.tables.exec = Jvm.exec) (hb : c.code = cc) (hs : cEq x 0 A B = some r) (hdg : decode cc pc = .ok (.ifCond .eq off, 3)) (ht : (pc : Int) + off = (tgt : Int)) (ka : A = some r → W p l e R s m args below meth c H locs cells slots Q (F0 m tgt ls rest)) (kb : B = some r → W p l e R s m args below meth c H locs cells slots Q (F0 m (pc + 3) ls rest)) : W p l e R s m args below meth c H locs cells slots Q (F0 m pc ls (.int (iI x) :: rest)) := by
  obtain ⟨h1, -, h | h⟩ := cEq_some hs
  · exact lv_if_eq hx hb hdg ht (fun _ => ka h.2) (fun q => absurd ((iI_eq h1 (show rg 0 by decide)).mpr h.1) q)
  · exact lv_if_eq hx hb hdg ht (fun q => absurd ((iI_eq h1 (show rg 0 by decide)).mp q) h.1) (fun _ => kb h.2)
theorem k_if_ne (hx : p.tables.exec = Jvm.exec) (hb : c.code = cc) (hs : cEq x 0 A B = some r) (hdg : decode cc pc = .ok (.ifCond .ne off, 3)) (ht : (pc : Int) + off = (tgt : Int)) (ka : A = some r → W p l e R s m args below meth c H locs cells slots Q (F0 m (pc + 3) ls rest)) (kb : B = some r → W p l e R s m args below meth c H locs cells slots Q (F0 m tgt ls rest)) : W p l e R s m args below meth c H locs cells slots Q (F0 m pc ls (.int (iI x) :: rest)) := by
  obtain ⟨h1, -, h | h⟩ := cEq_some hs
  · exact lv_if_ne hx hb hdg ht (fun q => absurd ((iI_eq h1 (show rg 0 by decide)).mpr h.1) q) (fun _ => ka h.2)
  · exact lv_if_ne hx hb hdg ht (fun _ => kb h.2) (fun q => absurd ((iI_eq h1 (show rg 0 by decide)).mp q) h.1)
theorem k_lcmp_ge (hx : p.tables.exec = Jvm.exec) (hb : c.code = cc) (hs : cLtL x y A B = some r) (hd1 : decode cc pc = .ok (.lcmp, 1)) (hdg : decode cc (pc + 1) = .ok (.ifCond .ge off, 3)) (ht : ((pc + 1 : Nat) : Int) + off = (tgt : Int)) (ka : A = some r → W p l e R s m args below meth c H locs cells slots Q (F0 m (pc + 4) ls rest)) (kb : B = some r → W p l e R s m args below meth c H locs cells slots Q (F0 m tgt ls rest)) : W p l e R s m args below meth c H locs cells slots Q (F0 m pc ls (.long (iL y) :: .long (iL x) :: rest)) := by
  refine W.lcmp hx hb hd1 ?_
  obtain ⟨h1, h2, h | h⟩ := cLtL_some hs
  · exact lv_if_ge hx hb hdg ht (fun q => absurd ((iL_le h2 h1).mp ((lg_cmp_ge _ _).mp q)) (by omega)) (fun _ => ka h.2)
  · exact lv_if_ge hx hb hdg ht (fun _ => kb h.2) (fun q => absurd ((lg_cmp_ge _ _).mpr ((iL_le h2 h1).mpr (by omega))) q)
theorem k_lcmp_lt (hx : p.tables.exec = Jvm.exec) (hb : c.code = cc) (hs : cLtL x y A B = some r) (hd1 : decode cc pc = .ok (.lcmp, 1)) (hdg : decode cc (pc + 1) = .ok (.ifCond .lt off, 3)) (ht : ((pc + 1 : Nat) : Int) + off = (tgt : Int)) (ka : A = some r → W p l e R s m args below meth c H locs cells slots Q (F0 m tgt ls rest)) (kb : B = some r → W p l e R s m args below meth c H locs cells slots Q (F0 m (pc + 4) ls rest)) : W p l e R s m args below meth c H locs cells slots Q (F0 m pc ls (.long (iL y) :: .long (iL x) :: rest)) := by
  refine W.lcmp hx hb hd1 ?_
  obtain ⟨h1, h2, h | h⟩ := cLtL_some hs
  · exact lv_if_lt hx hb hdg ht (fun _ => ka h.2) (fun q => absurd ((lg_cmp_lt _ _).mpr ((iL_lt h1 h2).mpr h.1)) q)
  · exact lv_if_lt hx hb hdg ht (fun q => absurd ((iL_lt h1 h2).mp ((lg_cmp_lt _ _).mp q)) h.1) (fun _ => kb h.2)
theorem k_lcmp_gt (hx : p.tables.exec = Jvm.exec) (hb : c.code = cc) (hs : cLtL y x A B = some r) (hd1 : decode cc pc = .ok (.lcmp, 1)) (hdg : decode cc (pc + 1) = .ok (.ifCond .gt off, 3)) (ht : ((pc + 1 : Nat) : Int) + off = (tgt : Int)) (ka : A = some r → W p l e R s m args below meth c H locs cells slots Q (F0 m tgt ls rest)) (kb : B = some r → W p l e R s m args below meth c H locs cells slots Q (F0 m (pc + 4) ls rest)) : W p l e R s m args below meth c H locs cells slots Q (F0 m pc ls (.long (iL y) :: .long (iL x) :: rest)) := by
  refine W.lcmp hx hb hd1 ?_
  obtain ⟨h2, h1, h | h⟩ := cLtL_some hs
  · exact lv_if_gt hx hb hdg ht (fun _ => ka h.2) (fun q => absurd ((lg_cmp_gt _ _).mpr ((iL_lt h2 h1).mpr h.1)) q)
  · exact lv_if_gt hx hb hdg ht (fun q => absurd ((iL_lt h2 h1).mp ((lg_cmp_gt _ _).mp q)) h.1) (fun _ => kb h.2)
theorem k_lcmp_le (hx : p.tables.exec = Jvm.exec) (hb : c.code = cc) (hs : cLtL y x A B = some r) (hd1 : decode cc pc = .ok (.lcmp, 1)) (hdg : decode cc (pc + 1) = .ok (.ifCond .le off, 3)) (ht : ((pc + 1 : Nat) : Int) + off = (tgt : Int)) (ka : A = some r → W p l e R s m args below meth c H locs cells slots Q (F0 m (pc + 4) ls rest)) (kb : B = some r → W p l e R s m args below meth c H locs cells slots Q (F0 m tgt ls rest)) : W p l e R s m args below meth c H locs cells slots Q (F0 m pc ls (.long (iL y) :: .long (iL x) :: rest)) := by
  refine W.lcmp hx hb hd1 ?_
  obtain ⟨h2, h1, h | h⟩ := cLtL_some hs
  · exact lv_if_le hx hb hdg ht (fun q => absurd ((iL_le h1 h2).mp ((lg_cmp_le _ _).mp q)) (by omega)) (fun _ => ka h.2)
  · exact lv_if_le hx hb hdg ht (fun _ => kb h.2) (fun q => absurd ((lg_cmp_le _ _).mpr ((iL_le h1 h2).mpr (by omega))) q)
theorem k_lcmp_ne (hx : p.tables.exec = Jvm.exec) (hb : c.code = cc) (hs : cEqL x y A B = some r) (hd1 : decode cc pc = .ok (.lcmp, 1)) (hdg : decode cc (pc + 1) = .ok (.ifCond .ne off, 3)) (ht : ((pc + 1 : Nat) : Int) + off = (tgt : Int)) (ka : A = some r → W p l e R s m args below meth c H locs cells slots Q (F0 m (pc + 4) ls rest)) (kb : B = some r → W p l e R s m args below meth c H locs cells slots Q (F0 m tgt ls rest)) : W p l e R s m args below meth c H locs cells slots Q (F0 m pc ls (.long (iL y) :: .long (iL x) :: rest)) := by
  refine W.lcmp hx hb hd1 ?_
  obtain ⟨h1, h2, h | h⟩ := cEqL_some hs
  · exact lv_if_ne hx hb hdg ht (fun q => absurd ((lg_cmp_eq _ _).mpr ((iL_eq h1 h2).mpr h.1)) q) (fun _ => ka h.2)
  · exact lv_if_ne hx hb hdg ht (fun _ => kb h.2) (fun q => absurd ((iL_eq h1 h2).mp ((lg_cmp_eq _ _).mp q)) h.1)
end KROWS2
section KROWS3
variable {p : Program} {l : Launch} {e : Env} {R : Room} {s : State} {m : MethodId} {args : Array Value} {below : List Frame} {meth : Method} {c : Code} {H : Heap} {locs : List Loc} {cells slots : Nat} {Q : State → Prop}
variable {cc : ByteArray} {pc : Nat} {ls : Array Slot} {rest : List Value}

variable {D : va_G} {cl : List vw_C} {tys : List (ClassId × FieldType)} {ws : va_W} {A0 : Nat → Prop} {H0 : Heap} {a : Nat} {α : Type} {r : α}
theorem k_iald (hx : p.tables.exec = Jvm.exec) (hb : c.code = cc) (hK : va_K D cl tys s) (hP : va_P D cl ws H) (q0 t0 : Nat) {cA : ClassId} {n : Nat} {f : Int → Int} (ha : ws[q0]? = some (a, .inl (cA, n, (.inl (mI f))))) (ht : tys[t0]? = some (cA, .int)) (hn : n ≤ 2147483647) {x : Int} {K : Int → Option α} (hs : (rdA f n x).bind K = some r) (hdg : decode cc pc = .ok (.iaload, 1))
    (kk : ∀ v : Int, K v = some r → W p l e R s m args below meth c H locs cells slots Q (F0 m (pc + 1) ls (.int (iI v) :: rest))) : W p l e R s m args below meth c H locs cells slots Q (F0 m pc ls (.int (iI x) :: .ref a :: rest)) := by
  obtain ⟨h0, h1, h2⟩ := rdA_some hs
  refine va_iald hx hb hK hP q0 t0 ha ht (iI_in hn h0 h1) hdg ?_
  rw [mI_at hn h0 h1]
  exact kk _ h2
theorem k_zald (hx : p.tables.exec = Jvm.exec) (hb : c.code = cc) (hK : va_K D cl tys s) (hP : va_P D cl ws H) (q0 t0 : Nat) {cA : ClassId} {n : Nat} {f : Int → Int} (ha : ws[q0]? = some (a, .inl (cA, n, (.inl (mI f))))) (ht : tys[t0]? = some (cA, .boolean)) (hn : n ≤ 2147483647) {x : Int} {K : Int → Option α} (hs : (rdA f n x).bind K = some r) (hdg : decode cc pc = .ok (.baload, 1))
    (kk : ∀ v : Int, K v = some r → W p l e R s m args below meth c H locs cells slots Q (F0 m (pc + 1) ls (.int (iI v) :: rest))) : W p l e R s m args below meth c H locs cells slots Q (F0 m pc ls (.int (iI x) :: .ref a :: rest)) := by
  obtain ⟨h0, h1, h2⟩ := rdA_some hs
  refine va_zald hx hb hK hP q0 t0 ha ht (iI_in hn h0 h1) hdg ?_
  rw [mI_at hn h0 h1]
  exact kk _ h2
theorem k_lald (hx : p.tables.exec = Jvm.exec) (hb : c.code = cc) (hK : va_K D cl tys s) (hP : va_P D cl ws H) (q0 t0 : Nat) {cA : ClassId} {n : Nat} {f : Int → Int} (ha : ws[q0]? = some (a, .inl (cA, n, (.inr (.inl (mL f)))))) (ht : tys[t0]? = some (cA, .long)) (hn : n ≤ 2147483647) {x : Int} {K : Int → Option α} (hs : (rdA f n x).bind K = some r) (hdg : decode cc pc = .ok (.laload, 1))
    (kk : ∀ v : Int, K v = some r → W p l e R s m args below meth c H locs cells slots Q (F0 m (pc + 1) ls (.long (iL v) :: rest))) : W p l e R s m args below meth c H locs cells slots Q (F0 m pc ls (.int (iI x) :: .ref a :: rest)) := by
  obtain ⟨h0, h1, h2⟩ := rdA_some hs
  refine va_lald hx hb hK hP q0 t0 ha ht (iI_in hn h0 h1) hdg ?_
  rw [mL_at hn h0 h1]
  exact kk _ h2
theorem k_iast (hx : p.tables.exec = Jvm.exec) (hb : c.code = cc) (hK : va_K D cl tys s) (hP : va_P D cl ws H) (hD : va_D A0 ws) (hS : va_S A0 H0 H locs) (q0 t0 : Nat) {cA : ClassId} {n : Nat} {f : Int → Int} (ha : ws[q0]? = some (a, .inl (cA, n, (.inl (mI f))))) (ht : tys[t0]? = some (cA, .int)) (hn : n ≤ 2147483647) {x v : Int} {A : Option α} (hs : cN n x A = some r) (hdg : decode cc pc = .ok (.iastore, 1))
    (kk : ∀ (H1 : Heap) (locs1 : List Loc), va_P D cl (ws.set q0 (a, .inl (cA, n, (.inl (mI (upA f x v)))))) H1 → va_D A0 (ws.set q0 (a, .inl (cA, n, (.inl (mI (upA f x v)))))) → va_S A0 H0 H1 locs1 → A = some r → W p l e R s m args below meth c H1 locs1 cells slots Q (F0 m (pc + 1) ls rest)) : W p l e R s m args below meth c H locs cells slots Q (F0 m pc ls (.int (iI v) :: .int (iI x) :: .ref a :: rest)) := by
  obtain ⟨h0, h1, h2⟩ := cN_some hs
  refine va_iast hx hb hK hP hD hS q0 t0 ha ht (iI_in hn h0 h1) hdg ?_
  rw [mI_up hn h0 h1]
  exact fun H1 locs1 g1 g2 g3 => kk H1 locs1 g1 g2 g3 h2
theorem k_zast (hx : p.tables.exec = Jvm.exec) (hb : c.code = cc) (hK : va_K D cl tys s) (hP : va_P D cl ws H) (hD : va_D A0 ws) (hS : va_S A0 H0 H locs) (q0 t0 : Nat) {cA : ClassId} {n : Nat} {f : Int → Int} (ha : ws[q0]? = some (a, .inl (cA, n, (.inl (mI f))))) (ht : tys[t0]? = some (cA, .boolean)) (hn : n ≤ 2147483647) {x v : Int} (hv : v = 0 ∨ v = 1) {A : Option α} (hs : cN n x A = some r) (hdg : decode cc pc = .ok (.bastore, 1))
    (kk : ∀ (H1 : Heap) (locs1 : List Loc), va_P D cl (ws.set q0 (a, .inl (cA, n, (.inl (mI (upA f x v)))))) H1 → va_D A0 (ws.set q0 (a, .inl (cA, n, (.inl (mI (upA f x v)))))) → va_S A0 H0 H1 locs1 → A = some r → W p l e R s m args below meth c H1 locs1 cells slots Q (F0 m (pc + 1) ls rest)) : W p l e R s m args below meth c H locs cells slots Q (F0 m pc ls (.int (iI v) :: .int (iI x) :: .ref a :: rest)) := by
  obtain ⟨h0, h1, h2⟩ := cN_some hs
  refine va_zast hx hb hK hP hD hS q0 t0 ha ht (iI_in hn h0 h1) hdg ?_
  rw [vnarZ hv, mI_up hn h0 h1]
  exact fun H1 locs1 g1 g2 g3 => kk H1 locs1 g1 g2 g3 h2
theorem k_last (hx : p.tables.exec = Jvm.exec) (hb : c.code = cc) (hK : va_K D cl tys s) (hP : va_P D cl ws H) (hD : va_D A0 ws) (hS : va_S A0 H0 H locs) (q0 t0 : Nat) {cA : ClassId} {n : Nat} {f : Int → Int} (ha : ws[q0]? = some (a, .inl (cA, n, (.inr (.inl (mL f)))))) (ht : tys[t0]? = some (cA, .long)) (hn : n ≤ 2147483647) {x v : Int} {A : Option α} (hs : cN n x A = some r) (hdg : decode cc pc = .ok (.lastore, 1))
    (kk : ∀ (H1 : Heap) (locs1 : List Loc), va_P D cl (ws.set q0 (a, .inl (cA, n, (.inr (.inl (mL (upA f x v))))))) H1 → va_D A0 (ws.set q0 (a, .inl (cA, n, (.inr (.inl (mL (upA f x v))))))) → va_S A0 H0 H1 locs1 → A = some r → W p l e R s m args below meth c H1 locs1 cells slots Q (F0 m (pc + 1) ls rest)) : W p l e R s m args below meth c H locs cells slots Q (F0 m pc ls (.long (iL v) :: .int (iI x) :: .ref a :: rest)) := by
  obtain ⟨h0, h1, h2⟩ := cN_some hs
  refine va_last hx hb hK hP hD hS q0 t0 ha ht (iI_in hn h0 h1) hdg ?_
  rw [mL_up hn h0 h1]
  exact fun H1 locs1 g1 g2 g3 => kk H1 locs1 g1 g2 g3 h2
end KROWS3
/-! ===== contracts: a method that reads only; a method that writes its world, whose cells stay where they are ===== -/
def PR (D : va_G) (cl : List vw_C) (tys : List (ClassId × FieldType)) (av : List Value) (w : va_W) : Array Value → State → Prop := va_Pc av (fun U => va_P D cl w U.heap ∧ va_K D cl tys U)
def QR (rv : Option Value) : Array Value → State → Outcome → State → Prop := fun _ st oc t => oc = .returned rv ∧ t.heap = st.heap
def PW (D : va_G) (cl : List vw_C) (tys : List (ClassId × FieldType)) (av : List Value) (w : va_W) (sz : Nat) : Array Value → State → Prop := va_Pc av (fun U => U.heap.size = sz ∧ va_P D cl w U.heap ∧ va_K D cl tys U ∧ va_D (fun _ => True) w)
def QW (D : va_G) (cl : List vw_C) (rv : Option Value) (w1 : va_W) (A : Nat → Prop) : Array Value → State → Outcome → State → Prop := fun _ st oc t => oc = .returned rv ∧ va_P D cl w1 t.heap ∧ va_F A st t
/-- some cells of a list put anew, by their places -/
def rpl (ws : va_W) : List Nat → va_W → va_W
  | i :: is, q :: qs => rpl (ws.set i q) is qs
  | _, _ => ws
theorem rpl_get : ∀ (is : List Nat) (qs ws : va_W) (k : Nat) (q : Nat × va_E), is.length = qs.length → (rpl ws is qs)[k]? = some q → (∃ j : Nat, is[j]? = some k ∧ qs[j]? = some q) ∨ (k ∉ is ∧ ws[k]? = some q) := by
  intro is
  induction is with
  | nil => intro qs ws k q _ h; cases qs <;> exact Or.inr ⟨List.not_mem_nil, h⟩
  | cons i is ih =>
    intro qs ws k q hl h
    cases qs with
    | nil => cases hl
    | cons c qs =>
      rcases ih qs (ws.set i c) k q (by simpa using hl) h with ⟨j, h1, h2⟩ | ⟨h1, h2⟩
      · exact Or.inl ⟨j + 1, h1, h2⟩
      · by_cases hk : k = i
        · subst hk
          left
          refine ⟨0, rfl, ?_⟩
          rw [List.getElem?_set] at h2
          split at h2
          · split at h2
            · exact h2
            · cases h2
          · exact absurd rfl ‹_›
        · right
          refine ⟨by simp [hk, h1], ?_⟩
          rw [List.getElem?_set_ne (fun z => hk z.symm)] at h2
          exact h2
theorem rpl_D {A : Nat → Prop} : ∀ (is : List Nat) (qs ws : va_W), va_D A ws → (∀ (j i : Nat) (q : Nat × va_E), is[j]? = some i → qs[j]? = some q → ∃ e0, ws[i]? = some (q.1, e0)) → va_D A (rpl ws is qs) := by
  intro is
  induction is with
  | nil => intro qs ws h _; cases qs <;> exact h
  | cons i is ih =>
    intro qs ws h hh
    cases qs with
    | nil => exact h
    | cons c qs =>
      obtain ⟨e0, h0⟩ := hh 0 i c rfl rfl
      refine ih qs (ws.set i c) (by have := h.set (e := c.2) h0; exact this) (fun j k q hj hq => ?_)
      obtain ⟨e1, h1⟩ := hh (j + 1) k q hj hq
      by_cases hk : i = k
      · subst hk
        rw [h0] at h1
        have hl := (List.getElem?_eq_some_iff.mp h0).1
        refine ⟨c.2, ?_⟩
        rw [List.getElem?_set_self hl]
        have := congrArg (fun z => z.map Prod.fst) h1
        simp at this
        rw [← this]
      · exact ⟨e1, by rw [List.getElem?_set_ne hk]; exact h1⟩
theorem va_repl {A0 : Nat → Prop} {D : va_G} {cl : List vw_C} {ws wc w1 : va_W} {H H1 : Heap} (hP : va_P D cl ws H) (hD : va_D A0 ws) (isC : List Nat) (hC : isC.map (fun i => ws[i]?) = wc.map some) (hl : w1.map Prod.fst = wc.map Prod.fst)
    (hk : ∀ q : Nat, q < H.size → ¬ va_A wc H.size q → H1[q]? = H[q]?) (hP1 : va_P D cl w1 H1) : va_P D cl (rpl ws isC w1) H1 ∧ va_D A0 (rpl ws isC w1) := by
  have hlen : isC.length = w1.length := by
    have h1 := congrArg List.length hC
    have h2 := congrArg List.length hl
    simp at h1 h2
    omega
  have at' : ∀ (j i : Nat), isC[j]? = some i → ∃ q, wc[j]? = some q ∧ ws[i]? = some q := by
    intro j i hj
    have h1 : (isC.map (fun i => ws[i]?))[j]? = some ws[i]? := by rw [List.getElem?_map, hj]; rfl
    rw [hC, List.getElem?_map] at h1
    cases hq : wc[j]? with
    | none => rw [hq] at h1; cases h1
    | some q => rw [hq] at h1; exact ⟨q, rfl, (Option.some.inj h1).symm⟩
  constructor
  · intro k q hq
    rcases rpl_get isC w1 ws k q hlen hq with ⟨j, -, h2⟩ | ⟨h1, h2⟩
    · exact hP1 j q h2
    · have hlt := (hP k q h2).lt
      refine (hP k q h2).kept (hk q.1 hlt (fun h => ?_))
      rcases h with ⟨k2, e, h⟩ | h
      · have h3 : (wc.map some)[k2]? = some (some (q.1, e)) := by rw [List.getElem?_map, h]; rfl
        rw [← hC, List.getElem?_map] at h3
        cases hi : isC[k2]? with
        | none => rw [hi] at h3; cases h3
        | some i =>
          rw [hi] at h3
          have h4 : ws[i]? = some (q.1, e) := Option.some.inj h3
          have hij := hD.1 k i q (q.1, e) h2 h4 rfl
          subst hij
          exact h1 (List.mem_of_getElem? hi)
      · omega
  · refine rpl_D isC w1 ws hD (fun j i q hj hq => ?_)
    obtain ⟨q0, h1, h2⟩ := at' j i hj
    have h3 : (w1.map Prod.fst)[j]? = some q.1 := by rw [List.getElem?_map, hq]; rfl
    rw [hl, List.getElem?_map, h1] at h3
    have h4 : q0.1 = q.1 := Option.some.inj h3
    exact ⟨q0.2, by rw [h2, ← h4]⟩
theorem va_D_fst {A : Nat → Prop} {ws w1 : va_W} (hD : va_D A ws) (hl : w1.map Prod.fst = ws.map Prod.fst) : va_D A w1 := by
  have key : ∀ (k : Nat) (q : Nat × va_E), w1[k]? = some q → ∃ q0, ws[k]? = some q0 ∧ q0.1 = q.1 := by
    intro k q hk
    have h : (w1.map Prod.fst)[k]? = some q.1 := by rw [List.getElem?_map, hk]; rfl
    rw [hl, List.getElem?_map] at h
    cases hq : ws[k]? with
    | none => rw [hq] at h; cases h
    | some q0 => rw [hq] at h; exact ⟨q0, rfl, Option.some.inj h⟩
  refine ⟨fun i j p q hi hj e => ?_, fun k q hk => ?_⟩
  · obtain ⟨p0, h1, h2⟩ := key i p hi
    obtain ⟨q0, h3, h4⟩ := key j q hj
    exact hD.1 i j p0 q0 h1 h3 (by rw [h2, h4, e])
  · obtain ⟨q0, h1, h2⟩ := key k q hk
    rw [← h2]
    exact hD.2 k q0 h1
section KCALLS
variable {p : Program} {l : Launch} {e : Env} {R : Room} {s : State} {m : MethodId} {args : Array Value} {below : List Frame} {meth : Method} {c : Code} {H : Heap} {locs : List Loc} {cells slots : Nat} {Q : State → Prop}
variable {cc : ByteArray} {pc : Nat} {ls : Array Slot} {rest : List Value}
variable {D : va_G} {cl : List vw_C} {tys : List (ClassId × FieldType)} {ws w wc w1 : va_W} {A0 : Nat → Prop} {H0 : Heap}
variable {y : MethodName} {bytes : ByteArray} {maxL nL n index : Nat} {ret : Option FieldType} {wm : List Cond} {rm : Room} {Ts : List Cond} {own C : String} {b : Addr} {As st0 : List Value} {rv : Option Value} {mc ms : Nat} {free : Addr → Prop} {a : Array Value}
theorem k_run_r (hr : va_Run p l e R s m args below meth c H locs cells slots 0 0 (F0 m pc ls st0) rest (QR rv a) (fun _ => False))
    (kk : W p l e R s m args below meth c H locs cells slots Q (F0 m (pc + 3) ls (rv.toList ++ rest))) : W p l e R s m args below meth c H locs cells slots Q (F0 m pc ls st0) := by
  intro T hT X
  obtain ⟨v, st₀, t, T', L, h0, X', hL, e1, e2, ⟨hv, hh⟩, st⟩ := hr T hT X
  cases hv
  obtain ⟨t2, a1, b1⟩ := kk T' (by rw [e1, hh, h0]) (Stand.forget X' (fun q h => (hL q h).elim))
  exact ⟨t2, st t2 a1, b1⟩
theorem k_run_w (hr : va_Run p l e R s m args below meth c H locs cells slots 0 0 (F0 m pc ls st0) rest (QW D cl rv w1 (va_A wc H.size) a) (va_A wc H.size)) (hP : va_P D cl ws H) (hD : va_D A0 ws) (hS : va_S A0 H0 H locs) (hA : ∀ q, H0.size ≤ q → A0 q) (isC : List Nat) (hC : isC.map (fun i => ws[i]?) = wc.map some) (hl : w1.map Prod.fst = wc.map Prod.fst)
    (kk : ∀ (H1 : Heap) (locs1 : List Loc), va_P D cl (rpl ws isC w1) H1 → va_D A0 (rpl ws isC w1) → va_S A0 H0 H1 locs1 → W p l e R s m args below meth c H1 locs1 cells slots Q (F0 m (pc + 3) ls (rv.toList ++ rest))) : W p l e R s m args below meth c H locs cells slots Q (F0 m pc ls st0) := by
  intro T hT X
  obtain ⟨v, st₀, t, T', L, h0, X', hL, e1, e2, ⟨hv, hp, hz, hk⟩, st⟩ := hr T hT X
  cases hv
  rw [h0] at hz hk
  rw [← e1] at hz hk hp
  have hF := va_free hD hS hA isC hC
  obtain ⟨g1, g2⟩ := va_repl hP hD isC hC hl hk hp
  obtain ⟨t2, a1, b1⟩ := kk T'.heap (locs ++ L) g1 g2 ⟨Nat.le_trans hS.1 hz, fun q h1 h2 => by
      rw [hk q (Nat.lt_of_lt_of_le h1 hS.1) (fun z => h2 (hF q z))]; exact hS.2.1 q h1 h2, fun q hq => by
      rcases List.mem_append.mp hq with h | h
      · exact hS.2.2 q h
      · exact hF _ (hL q h)⟩ T' rfl X'
  exact ⟨t2, st t2 a1, b1⟩
/-- a call of a method that reads only -/
theorem k_rV (S : CallFix p m c cc nL s args Ts own) (hK : va_K D cl tys s) (hPc : va_P D cl w H) (hM : Met l y wm rm (PR D cl tys (.ref b :: As) w) (QR rv) 0 0 (fun _ => False)) (cw : CallW R s args own C index y bytes maxL ret wm rm 0 0 n) (q0 : Nat) {ci : Nat} {q : vw_C} {fs : List Value} (he : w[q0]? = some (b, .inr (ci, fs))) (hc : cl[ci]? = some q) (hq : q.1 = C)
    (hn : As.length = n) (hsize : ls.size = nL) (hstack : st0 = As.reverse ++ .ref b :: rest) (hW : 2 * (F0 m pc ls st0).monitorRoom + (rest.map fun v => v.category).sum ≤ 8) (hdg : decode cc pc = .ok (.invokevirtual index, 3)) (hf : cells ≤ R.cells ∧ slots ≤ R.slots) {st1 : List Value} (h1 : rv.toList ++ rest = st1)
    (kk : W p l e R s m args below meth c H locs cells slots Q (F0 m (pc + 3) ls st1)) : W p l e R s m args below meth c H locs cells slots Q (F0 m pc ls st0) := by
  subst hq
  subst h1
  exact k_run_r (va_runV S hM cw ⟨fun a U g mk q => ⟨q.1, q.2.1, va_K.moved (u := U) (U := U.calling g mk a) (Vm.Alike.refl U.vm) q.2.2⟩, va_recv hK hPc hc he, fun U hU hW => ⟨rfl, by rw [hU]; exact hPc, va_K.moved hW.alike hK⟩⟩ rfl hn hsize hstack hW hdg hf) kk
theorem k_rS (S : CallFix p m c cc nL s args Ts own) (hK : va_K D cl tys s) (hPc : va_P D cl w H) (hM : Met l y wm rm (PR D cl tys As w) (QR rv) 0 0 (fun _ => False)) (cw : CallB R s args own index y bytes maxL ret wm rm 0 0 n ∧ (Cond.static y).before args s = true)
    (hn : As.length = n) (hsize : ls.size = nL) (hstack : st0 = As.reverse ++ rest) (hW : 2 * (F0 m pc ls st0).monitorRoom + (rest.map fun v => v.category).sum ≤ 8) (hdg : decode cc pc = .ok (.invokestatic index, 3)) (hf : cells ≤ R.cells ∧ slots ≤ R.slots) {st1 : List Value} (h1 : rv.toList ++ rest = st1)
    (kk : W p l e R s m args below meth c H locs cells slots Q (F0 m (pc + 3) ls st1)) : W p l e R s m args below meth c H locs cells slots Q (F0 m pc ls st0) := by
  subst h1
  exact k_run_r (va_runS S hM cw ⟨fun a U g mk q => ⟨q.1, q.2.1, va_K.moved (u := U) (U := U.calling g mk a) (Vm.Alike.refl U.vm) q.2.2⟩, fun U hU hW => ⟨rfl, by rw [hU]; exact hPc, va_K.moved hW.alike hK⟩⟩ rfl hn hsize hstack hW hdg hf) kk
/-- a call of a method that writes its cells -/
theorem k_wV (S : CallFix p m c cc nL s args Ts own) (hK : va_K D cl tys s) (hP : va_P D cl ws H) (hD : va_D A0 ws) (hS : va_S A0 H0 H locs) (hA : ∀ q, H0.size ≤ q → A0 q) (isC : List Nat) (hC : isC.map (fun i => ws[i]?) = wc.map some) (hnd : va_nd isC = true) (hM : Met l y wm rm (PW D cl tys (.ref b :: As) wc H.size) (QW D cl rv w1 (va_A wc H.size)) 0 0 (va_A wc H.size)) (cw : CallW R s args own C index y bytes maxL ret wm rm 0 0 n) (q0 : Nat) {ci : Nat} {q : vw_C} {fs : List Value} (he : ws[q0]? = some (b, .inr (ci, fs))) (hc : cl[ci]? = some q) (hq : q.1 = C) (hl : w1.map Prod.fst = wc.map Prod.fst)
    (hn : As.length = n) (hsize : ls.size = nL) (hstack : st0 = As.reverse ++ .ref b :: rest) (hW : 2 * (F0 m pc ls st0).monitorRoom + (rest.map fun v => v.category).sum ≤ 8) (hdg : decode cc pc = .ok (.invokevirtual index, 3)) (hf : cells ≤ R.cells ∧ slots ≤ R.slots) {st1 : List Value} (h1 : rv.toList ++ rest = st1)
    (kk : ∀ (H1 : Heap) (locs1 : List Loc), va_P D cl (rpl ws isC w1) H1 → va_D A0 (rpl ws isC w1) → va_S A0 H0 H1 locs1 → W p l e R s m args below meth c H1 locs1 cells slots Q (F0 m (pc + 3) ls st1)) : W p l e R s m args below meth c H locs cells slots Q (F0 m pc ls st0) := by
  subst hq
  subst h1
  have hPc : va_P D cl wc H := by
    intro k q hk
    have h1 : (wc.map some)[k]? = some (some q) := by rw [List.getElem?_map, hk]; rfl
    rw [← hC, List.getElem?_map] at h1
    cases hi : isC[k]? with
    | none => rw [hi] at h1; cases h1
    | some i => rw [hi] at h1; exact hP i q (Option.some.inj h1)
  have hDc : va_D A0 wc := hD.sub isC hnd hC
  exact k_run_w (va_runV S hM cw ⟨fun a U g mk q => ⟨q.1, q.2.1, q.2.2.1, va_K.moved (u := U) (U := U.calling g mk a) (Vm.Alike.refl U.vm) q.2.2.2.1, q.2.2.2.2⟩, va_recv hK hP hc he, fun U hU hW => ⟨rfl, by rw [hU], by rw [hU]; exact hPc, va_K.moved hW.alike hK, hDc.weaken (fun _ _ _ _ => trivial)⟩⟩ rfl hn hsize hstack hW hdg hf) hP hD hS hA isC hC hl kk
theorem k_wS (S : CallFix p m c cc nL s args Ts own) (hK : va_K D cl tys s) (hP : va_P D cl ws H) (hD : va_D A0 ws) (hS : va_S A0 H0 H locs) (hA : ∀ q, H0.size ≤ q → A0 q) (isC : List Nat) (hC : isC.map (fun i => ws[i]?) = wc.map some) (hnd : va_nd isC = true) (hM : Met l y wm rm (PW D cl tys As wc H.size) (QW D cl rv w1 (va_A wc H.size)) 0 0 (va_A wc H.size)) (cw : CallB R s args own index y bytes maxL ret wm rm 0 0 n ∧ (Cond.static y).before args s = true) (hl : w1.map Prod.fst = wc.map Prod.fst)
    (hn : As.length = n) (hsize : ls.size = nL) (hstack : st0 = As.reverse ++ rest) (hW : 2 * (F0 m pc ls st0).monitorRoom + (rest.map fun v => v.category).sum ≤ 8) (hdg : decode cc pc = .ok (.invokestatic index, 3)) (hf : cells ≤ R.cells ∧ slots ≤ R.slots) {st1 : List Value} (h1 : rv.toList ++ rest = st1)
    (kk : ∀ (H1 : Heap) (locs1 : List Loc), va_P D cl (rpl ws isC w1) H1 → va_D A0 (rpl ws isC w1) → va_S A0 H0 H1 locs1 → W p l e R s m args below meth c H1 locs1 cells slots Q (F0 m (pc + 3) ls st1)) : W p l e R s m args below meth c H locs cells slots Q (F0 m pc ls st0) := by
  subst h1
  have hPc : va_P D cl wc H := by
    intro k q hk
    have h1 : (wc.map some)[k]? = some (some q) := by rw [List.getElem?_map, hk]; rfl
    rw [← hC, List.getElem?_map] at h1
    cases hi : isC[k]? with
    | none => rw [hi] at h1; cases h1
    | some i => rw [hi] at h1; exact hP i q (Option.some.inj h1)
  have hDc : va_D A0 wc := hD.sub isC hnd hC
  exact k_run_w (va_runS S hM cw ⟨fun a U g mk q => ⟨q.1, q.2.1, q.2.2.1, va_K.moved (u := U) (U := U.calling g mk a) (Vm.Alike.refl U.vm) q.2.2.2.1, q.2.2.2.2⟩, fun U hU hW => ⟨rfl, by rw [hU], by rw [hU]; exact hPc, va_K.moved hW.alike hK, hDc.weaken (fun _ _ _ _ => trivial)⟩⟩ rfl hn hsize hstack hW hdg hf) hP hD hS hA isC hC hl kk
theorem k_wVs (S : CallFix p m c cc nL s args Ts own) (hK : va_K D cl tys s) (hP : va_P D cl ws H) (hD : va_D A0 ws) (hS : va_S A0 H0 H locs) (hA : ∀ q, H0.size ≤ q → A0 q) (hM : Met l y wm rm (PW D cl tys (.ref b :: As) ws H.size) (QW D cl rv w1 (va_A ws H.size)) 0 0 (va_A ws H.size)) (cw : CallW R s args own C index y bytes maxL ret wm rm 0 0 n) (q0 : Nat) {ci : Nat} {q : vw_C} {fs : List Value} (he : ws[q0]? = some (b, .inr (ci, fs))) (hc : cl[ci]? = some q) (hq : q.1 = C) (hl : w1.map Prod.fst = ws.map Prod.fst)
    (hn : As.length = n) (hsize : ls.size = nL) (hstack : st0 = As.reverse ++ .ref b :: rest) (hW : 2 * (F0 m pc ls st0).monitorRoom + (rest.map fun v => v.category).sum ≤ 8) (hdg : decode cc pc = .ok (.invokevirtual index, 3)) (hf : cells ≤ R.cells ∧ slots ≤ R.slots) {st1 : List Value} (h1 : rv.toList ++ rest = st1)
    (kk : ∀ (H1 : Heap) (locs1 : List Loc), va_P D cl w1 H1 → va_D A0 w1 → va_S A0 H0 H1 locs1 → W p l e R s m args below meth c H1 locs1 cells slots Q (F0 m (pc + 3) ls st1)) : W p l e R s m args below meth c H locs cells slots Q (F0 m pc ls st0) := by
  subst hq
  subst h1
  intro T hT X
  have hr := va_runV S hM cw ⟨fun a U g mk q => ⟨q.1, q.2.1, q.2.2.1, va_K.moved (u := U) (U := U.calling g mk a) (Vm.Alike.refl U.vm) q.2.2.2.1, q.2.2.2.2⟩, va_recv hK hP hc he, fun U hU hW => ⟨rfl, by rw [hU], by rw [hU]; exact hP, va_K.moved hW.alike hK, hD.weaken (fun _ _ _ _ => trivial)⟩⟩ rfl hn hsize hstack hW hdg hf (g := F0 m pc ls st0) (rest := rest) (locs := locs) (below := below) (meth := meth) (e := e) (cells := cells) (slots := slots)
  obtain ⟨v, st₀, t, T', L, h0, X', hL, e1, e2, ⟨hv, hp, hz, hk⟩, st⟩ := hr T hT X
  cases hv
  rw [h0] at hz hk
  rw [← e1] at hz hk hp
  have hF : ∀ q, va_A ws H.size q → A0 q := by
    intro q hq
    rcases hq with ⟨k, e, h⟩ | h
    · exact hD.2 k (q, e) h
    · exact hA q (Nat.le_trans hS.1 h)
  obtain ⟨t2, a1, b1⟩ := kk T'.heap (locs ++ L) hp (va_D_fst hD hl) ⟨Nat.le_trans hS.1 hz, fun q h1 h2 => by
      rw [hk q (Nat.lt_of_lt_of_le h1 hS.1) (fun z => h2 (hF q z))]; exact hS.2.1 q h1 h2, fun q hq => by
      rcases List.mem_append.mp hq with h | h
      · exact hS.2.2 q h
      · exact hF _ (hL q h)⟩ T' rfl X'
  exact ⟨t2, st t2 a1, b1⟩
end KCALLS
section KRETS
variable {p : Program} {l : Launch} {e : Env} {R : Room} {s : State} {m : MethodId} {args : Array Value} {below : List Frame} {meth : Method} {c : Code} {H : Heap} {locs : List Loc} {cells slots : Nat} {Q : State → Prop}
variable {cc : ByteArray} {pc : Nat} {ls : Array Slot} {rest : List Value}
variable {rv : Option Value} {D : va_G} {cl : List vw_C} {w1 : va_W} {A : Nat → Prop}
theorem k_iret_r {v : Int} (hx : p.tables.exec = Jvm.exec) (hb : c.code = cc) (hr : meth.sig.returnType = some .int) (hlk : meth.locks = false) (hH : H = s.heap) (hdg : decode cc pc = .ok (.ireturn, 1)) (hv : rv = some (.int (iI v))) : W p l e R s m args below meth c H [] cells slots (MQ below (QR rv) args s cells slots (fun _ => False)) (F0 m pc ls [.int (iI v)]) := by
  subst hv
  exact W.iret hx hb hr (fun t ht _ => ⟨rfl, by rw [ht, hH]⟩) (fun _ h => by cases h) hdg hlk
theorem k_zret_r {v : Int} (hx : p.tables.exec = Jvm.exec) (hb : c.code = cc) (hr : meth.sig.returnType = some .boolean) (hlk : meth.locks = false) (hH : H = s.heap) (hv2 : v = 0 ∨ v = 1) (hdg : decode cc pc = .ok (.ireturn, 1)) (hv : rv = some (.int (iI v))) : W p l e R s m args below meth c H [] cells slots (MQ below (QR rv) args s cells slots (fun _ => False)) (F0 m pc ls [.int (iI v)]) := by
  subst hv
  exact W.zret hx hb hr (narZ hv2) (fun t ht _ => ⟨rfl, by rw [ht, hH]⟩) (fun _ h => by cases h) hdg hlk
theorem k_lret_r {v : Int} (hx : p.tables.exec = Jvm.exec) (hb : c.code = cc) (hr : meth.sig.returnType = some .long) (hlk : meth.locks = false) (hH : H = s.heap) (hdg : decode cc pc = .ok (.lreturn, 1)) (hv : rv = some (.long (iL v))) : W p l e R s m args below meth c H [] cells slots (MQ below (QR rv) args s cells slots (fun _ => False)) (F0 m pc ls [.long (iL v)]) := by
  subst hv
  exact W.lret hx hb hr (fun t ht _ => ⟨rfl, by rw [ht, hH]⟩) (fun _ h => by cases h) hdg hlk
theorem k_iret_w {v : Int} (hx : p.tables.exec = Jvm.exec) (hb : c.code = cc) (hr : meth.sig.returnType = some .int) (hlk : meth.locks = false) (hP : va_P D cl w1 H) (hS : va_S A s.heap H locs) (hdg : decode cc pc = .ok (.ireturn, 1)) (hv : rv = some (.int (iI v))) : W p l e R s m args below meth c H locs cells slots (MQ below (QW D cl rv w1 A) args s cells slots A) (F0 m pc ls [.int (iI v)]) := by
  subst hv
  exact W.iret hx hb hr (fun t ht _ => ⟨rfl, by rw [ht]; exact hP, hS.F ht⟩) hS.2.2 hdg hlk
theorem k_vret_w (hx : p.tables.exec = Jvm.exec) (hb : c.code = cc) (hr : meth.sig.returnType = none) (hlk : meth.locks = false) (hP : va_P D cl w1 H) (hS : va_S A s.heap H locs) (hdg : decode cc pc = .ok (.return_, 1)) (hv : rv = none) : W p l e R s m args below meth c H locs cells slots (MQ below (QW D cl rv w1 A) args s cells slots A) (F0 m pc ls []) := by
  subst hv
  exact W.vret hx hb hr (fun t ht _ => ⟨rfl, by rw [ht]; exact hP, hS.F ht⟩) hS.2.2 hdg hlk
end KRETS

theorem va_P_nil {D : va_G} {cl : List vw_C} {H : Heap} : va_P D cl [] H := fun k q h => by simp at h
def lMax (x y : Int) : Int := if y < x then x else y
def cRL {α : Type} (x : Int) (A : Option α) : Option α := if rgL x then A else none
theorem cRL_some {α : Type} {x : Int} {A : Option α} {r : α} (h : cRL x A = some r) : rgL x ∧ A = some r := by
  unfold cRL at h
  split at h
  · exact ⟨‹_›, h⟩
  · cases h
def cCp {α : Type} (n0 n1 : Nat) (sp dp n : Int) (A : Option α) : Option α := if 0 ≤ sp ∧ 0 ≤ dp ∧ 0 ≤ n ∧ sp + n ≤ (n0 : Int) ∧ dp + n ≤ (n1 : Int) then A else none
theorem cCp_some {α : Type} {n0 n1 : Nat} {sp dp n : Int} {A : Option α} {r : α} (h : cCp n0 n1 sp dp n A = some r) : (0 ≤ sp ∧ 0 ≤ dp ∧ 0 ≤ n ∧ sp + n ≤ (n0 : Int) ∧ dp + n ≤ (n1 : Int)) ∧ A = some r := by
  unfold cCp at h
  split at h
  · exact ⟨‹_›, h⟩
  · cases h
theorem iI_nat (n : Nat) : Int32.ofNat n = iI ((n : Nat) : Int) := (Int32.ofInt_eq_ofNat (n := n)).symm
theorem iI_clamp0 {x : Int} (h0 : 0 ≤ x) (h1 : x ≤ 2147483647) : (iI x).toNatClampNeg = x.toNat := by
  have h : (iI x).toInt = x := iI_toInt ⟨by omega, by omega⟩
  show (iI x).toInt.toNat = x.toNat
  rw [h]
theorem mI_cp {f g : Int → Int} {sp dp n : Int} (h1 : 0 ≤ sp) (h2 : 0 ≤ dp) (h3 : 0 ≤ n) : va_cpy (mI f) (mI g) sp.toNat dp.toNat n.toNat = mI (cpA f g sp dp n) := by
  funext j
  by_cases h : dp ≤ (j : Int) ∧ (j : Int) < dp + n
  · have h5 : dp.toNat ≤ j ∧ j < dp.toNat + n.toNat := by omega
    have h6 : ((sp.toNat + (j - dp.toNat) : Nat) : Int) = sp + ((j : Int) - dp) := by omega
    simp only [va_cpy, mI, cpA, if_pos h, if_pos h5, h6]
  · have h5 : ¬ (dp.toNat ≤ j ∧ j < dp.toNat + n.toNat) := by omega
    simp only [va_cpy, mI, cpA, if_neg h, if_neg h5]
section KJDK
variable {p : Program} {l : Launch} {e : Env} {R : Room} {s : State} {m : MethodId} {args : Array Value} {below : List Frame} {meth : Method} {c : Code} {H : Heap} {locs : List Loc} {cells slots : Nat} {Q : State → Prop}
variable {cc : ByteArray} {pc : Nat} {ls : Array Slot} {rest : List Value} {α : Type} {A : Option α} {r : α} {x y : Int}
theorem k_mmax (hx : p.tables.exec = Jvm.exec) (hb : c.code = cc) (hml : c.maxLocals = ls.size) {own : String} {index : Nat} (hown : s.vm.findClass own = some m.cls) (hlink : (Cond.methodLink own index Lib.Math.max.name).before args s = true) (hstat : (Cond.static Lib.Math.max.name).before args s = true) (hini : (Cond.initialized "java/lang/Math").before args s = true) (hcode : (Cond.code Lib.Math.max.name Lib.Math.max.code 2 (some .int)).before args s = true)
    (hframes : 1 ≤ R.frames) (hlocals : (rest.map fun v => v.category).sum + 13 ≤ R.locals) (hc : cells ≤ R.cells) (hsl : slots ≤ R.slots) (hs : cR x (cR y A) = some r) (hdg : decode cc pc = .ok (.invokestatic index, 3))
    (kk : A = some r → W p l e R s m args below meth c H locs cells slots Q (F0 m (pc + 3) ls (.int (iI (iMax x y)) :: rest))) : W p l e R s m args below meth c H locs cells slots Q (F0 m pc ls (.int (iI y) :: .int (iI x) :: rest)) := by
  obtain ⟨h1, h2⟩ := cR_some hs
  obtain ⟨h3, h4⟩ := cR_some h2
  refine va_mmax hx hb hml hown hlink hstat hini hcode hframes hlocals hc hsl hdg ?_
  have e1 : (if iI x < iI y then iI y else iI x) = iI (iMax x y) := by
    unfold iMax
    by_cases h : x < y
    · rw [if_pos h, if_pos ((iI_lt h1 h3).mpr h)]
    · rw [if_neg h, if_neg (fun q => h ((iI_lt h1 h3).mp q))]
  rw [e1]
  exact kk h4
theorem k_mmin (hx : p.tables.exec = Jvm.exec) (hb : c.code = cc) (hml : c.maxLocals = ls.size) {own : String} {index : Nat} (hown : s.vm.findClass own = some m.cls) (hlink : (Cond.methodLink own index Lib.Math.min.name).before args s = true) (hstat : (Cond.static Lib.Math.min.name).before args s = true) (hini : (Cond.initialized "java/lang/Math").before args s = true) (hcode : (Cond.code Lib.Math.min.name Lib.Math.min.code 2 (some .int)).before args s = true)
    (hframes : 1 ≤ R.frames) (hlocals : (rest.map fun v => v.category).sum + 13 ≤ R.locals) (hc : cells ≤ R.cells) (hsl : slots ≤ R.slots) (hs : cR x (cR y A) = some r) (hdg : decode cc pc = .ok (.invokestatic index, 3))
    (kk : A = some r → W p l e R s m args below meth c H locs cells slots Q (F0 m (pc + 3) ls (.int (iI (iMin x y)) :: rest))) : W p l e R s m args below meth c H locs cells slots Q (F0 m pc ls (.int (iI y) :: .int (iI x) :: rest)) := by
  obtain ⟨h1, h2⟩ := cR_some hs
  obtain ⟨h3, h4⟩ := cR_some h2
  refine va_mmin hx hb hml hown hlink hstat hini hcode hframes hlocals hc hsl hdg ?_
  have e1 : (if iI y < iI x then iI y else iI x) = iI (iMin x y) := by
    unfold iMin
    by_cases h : y < x
    · rw [if_pos h, if_pos ((iI_lt h3 h1).mpr h)]
    · rw [if_neg h, if_neg (fun q => h ((iI_lt h3 h1).mp q))]
  rw [e1]
  exact kk h4
theorem k_mmaxL (hx : p.tables.exec = Jvm.exec) (hb : c.code = cc) (hml : c.maxLocals = ls.size) {own : String} {index : Nat} (hown : s.vm.findClass own = some m.cls) (hlink : (Cond.methodLink own index Lib.MathLoose.max_long.x).before args s = true) (hstat : (Cond.static Lib.MathLoose.max_long.x).before args s = true) (hini : (Cond.initialized "java/lang/Math").before args s = true) (hcode : (Cond.code Lib.MathLoose.max_long.x Lib.MathLoose.max_long.code 4 (some .long)).before args s = true)
    (hframes : 1 ≤ R.frames) (hlocals : (rest.map fun v => v.category).sum + 15 ≤ R.locals) (hc : cells ≤ R.cells) (hsl : slots ≤ R.slots) (hs : cRL x (cRL y A) = some r) (hdg : decode cc pc = .ok (.invokestatic index, 3))
    (kk : A = some r → W p l e R s m args below meth c H locs cells slots Q (F0 m (pc + 3) ls (.long (iL (lMax x y)) :: rest))) : W p l e R s m args below meth c H locs cells slots Q (F0 m pc ls (.long (iL y) :: .long (iL x) :: rest)) := by
  obtain ⟨h1, h2⟩ := cRL_some hs
  obtain ⟨h3, h4⟩ := cRL_some h2
  refine va_mmax_long hx hb hml hown hlink hstat hini hcode hframes hlocals hc hsl hdg ?_
  have e1 : (if iL y < iL x then iL x else iL y) = iL (lMax x y) := by
    unfold lMax
    by_cases h : y < x
    · rw [if_pos h, if_pos ((iL_lt h3 h1).mpr h)]
    · rw [if_neg h, if_neg (fun q => h ((iL_lt h3 h1).mp q))]
  rw [e1]
  exact kk h4
variable {D : va_G} {cl : List vw_C} {tys : List (ClassId × FieldType)} {ws : va_W} {A0 : Nat → Prop} {H0 : Heap} {a : Nat}
theorem k_copy (hx : p.tables.exec = Jvm.exec) (hb : c.code = cc) (hml : c.maxLocals = ls.size) {own : String} {index : Nat} (hown : s.vm.findClass own = some m.cls) (hlink : (Cond.methodLink own index arraycopyName).before args s = true) (hnat : (Cond.native arraycopyName).before args s = true) (hstat : (Cond.static arraycopyName).before args s = true) (hini : (Cond.initialized "java/lang/System").before args s = true)
    (hK : va_K D cl tys s) (hP : va_P D cl ws H) (hD : va_D A0 ws) (hS : va_S A0 H0 H locs) (q0 q1 t0 t1 : Nat) {a0 : Nat} {c0 c1 : ClassId} {n0 n1 : Nat} {f g : Int → Int} (ha0 : ws[q0]? = some (a0, .inl (c0, n0, .inl (mI f)))) (ha1 : ws[q1]? = some (a, .inl (c1, n1, .inl (mI g)))) (ht0 : tys[t0]? = some (c0, .int)) (ht1 : tys[t1]? = some (c1, .int)) (hn0 : n0 ≤ 2147483647) (hn1 : n1 ≤ 2147483647)
    {sp dp n : Int} (hframes : 1 ≤ R.frames) (hlocals : (rest.map fun v => v.category).sum + (nativeFrameWords "java/lang/System" "arraycopy" 5 + 11) ≤ R.locals) (hs : cCp n0 n1 sp dp n A = some r) (hdg : decode cc pc = .ok (.invokestatic index, 3))
    (kk : ∀ (H1 : Heap) (locs1 : List Loc), va_P D cl (ws.set q1 (a, .inl (c1, n1, .inl (mI (cpA f g sp dp n))))) H1 → va_D A0 (ws.set q1 (a, .inl (c1, n1, .inl (mI (cpA f g sp dp n))))) → va_S A0 H0 H1 locs1 → A = some r → W p l e R s m args below meth c H1 locs1 cells slots Q (F0 m (pc + 3) ls rest)) : W p l e R s m args below meth c H locs cells slots Q (F0 m pc ls (.int (iI n) :: .int (iI dp) :: .ref a :: .int (iI sp) :: .ref a0 :: rest)) := by
  obtain ⟨⟨h1, h2, h3, h4, h5⟩, h6⟩ := cCp_some hs
  have n1' : ¬ iI sp < 0 := fun q => absurd ((iI_lt (y := 0) ⟨by omega, by omega⟩ (by decide)).mp q) (by omega)
  have n2' : ¬ iI dp < 0 := fun q => absurd ((iI_lt (y := 0) ⟨by omega, by omega⟩ (by decide)).mp q) (by omega)
  have n3' : ¬ iI n < 0 := fun q => absurd ((iI_lt (y := 0) ⟨by omega, by omega⟩ (by decide)).mp q) (by omega)
  have e1 : (iI sp).toNatClampNeg = sp.toNat := iI_clamp0 h1 (by omega)
  have e2 : (iI dp).toNatClampNeg = dp.toNat := iI_clamp0 h2 (by omega)
  have e3 : (iI n).toNatClampNeg = n.toNat := iI_clamp0 h3 (by omega)
  refine va_copyi hx hb hml hown hlink hnat hstat hini hK hP hD hS q0 q1 t0 t1 ha0 ha1 ht0 ht1 rfl n1' n2' n3' (by rw [e1, e3]; omega) (by rw [e2, e3]; omega) (fun i _ => rfl) hframes hlocals hdg ?_
  rw [e1, e2, e3, mI_cp h1 h2 h3]
  exact fun H1 locs1 g1 g2 g3 => kk H1 locs1 g1 g2 g3 h6
end KJDK
