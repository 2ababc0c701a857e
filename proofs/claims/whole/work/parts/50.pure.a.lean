/-! ===== the checked steps, where they are within their bounds ===== -/
theorem cLt_t {α : Type} {x y : Int} {A B : Option α} (h : x < y) (h1 : -2147483648 ≤ x) (h2 : x < 2147483648) (h3 : -2147483648 ≤ y) (h4 : y < 2147483648) : cLt x y A B = A := by
  unfold cLt; rw [if_pos ⟨⟨h1, h2⟩, h3, h4⟩, if_pos h]
theorem cLt_f {α : Type} {x y : Int} {A B : Option α} (h : ¬ x < y) (h1 : -2147483648 ≤ x) (h2 : x < 2147483648) (h3 : -2147483648 ≤ y) (h4 : y < 2147483648) : cLt x y A B = B := by
  unfold cLt; rw [if_pos ⟨⟨h1, h2⟩, h3, h4⟩, if_neg h]
theorem cEq_t {α : Type} {x y : Int} {A B : Option α} (h : x = y) (h1 : -2147483648 ≤ x) (h2 : x < 2147483648) : cEq x y A B = A := by
  subst h; unfold cEq; rw [if_pos ⟨⟨h1, h2⟩, h1, h2⟩, if_pos rfl]
theorem cEq_f {α : Type} {x y : Int} {A B : Option α} (h : ¬ x = y) (h1 : -2147483648 ≤ x) (h2 : x < 2147483648) (h3 : -2147483648 ≤ y) (h4 : y < 2147483648) : cEq x y A B = B := by
  unfold cEq; rw [if_pos ⟨⟨h1, h2⟩, h3, h4⟩, if_neg h]
theorem cLtL_t {α : Type} {x y : Int} {A B : Option α} (h : x < y) (h1 : -9223372036854775808 ≤ x) (h2 : x < 9223372036854775808) (h3 : -9223372036854775808 ≤ y) (h4 : y < 9223372036854775808) : cLtL x y A B = A := by
  unfold cLtL; rw [if_pos ⟨⟨h1, h2⟩, h3, h4⟩, if_pos h]
theorem cLtL_f {α : Type} {x y : Int} {A B : Option α} (h : ¬ x < y) (h1 : -9223372036854775808 ≤ x) (h2 : x < 9223372036854775808) (h3 : -9223372036854775808 ≤ y) (h4 : y < 9223372036854775808) : cLtL x y A B = B := by
  unfold cLtL; rw [if_pos ⟨⟨h1, h2⟩, h3, h4⟩, if_neg h]
theorem cEqL_t {α : Type} {x y : Int} {A B : Option α} (h : x = y) (h1 : -9223372036854775808 ≤ x) (h2 : x < 9223372036854775808) : cEqL x y A B = A := by
  subst h; unfold cEqL; rw [if_pos ⟨⟨h1, h2⟩, h1, h2⟩, if_pos rfl]
theorem cEqL_f {α : Type} {x y : Int} {A B : Option α} (h : ¬ x = y) (h1 : -9223372036854775808 ≤ x) (h2 : x < 9223372036854775808) (h3 : -9223372036854775808 ≤ y) (h4 : y < 9223372036854775808) : cEqL x y A B = B := by
  unfold cEqL; rw [if_pos ⟨⟨h1, h2⟩, h3, h4⟩, if_neg h]
theorem cR_t {α : Type} {x : Int} {A : Option α} (h1 : -2147483648 ≤ x) (h2 : x < 2147483648) : cR x A = A := by
  unfold cR; rw [if_pos ⟨h1, h2⟩]
theorem cRL_t {α : Type} {x : Int} {A : Option α} (h1 : -9223372036854775808 ≤ x) (h2 : x < 9223372036854775808) : cRL x A = A := by
  unfold cRL; rw [if_pos ⟨h1, h2⟩]
theorem cZ_t {α : Type} {x : Int} {A : Option α} (h1 : 0 ≤ x) (h2 : x ≤ 1) : cZ x A = A := by
  unfold cZ; rw [if_pos (by omega)]
theorem cN_t {α : Type} {n : Nat} {x : Int} {A : Option α} (h1 : 0 ≤ x) (h2 : x < (n : Int)) : cN n x A = A := by
  unfold cN; rw [if_pos ⟨h1, h2⟩]
theorem cCp_t {α : Type} {n0 n1 : Nat} {sp dp n : Int} {A : Option α} (h1 : 0 ≤ sp) (h2 : 0 ≤ dp) (h3 : 0 ≤ n) (h4 : sp + n ≤ (n0 : Int)) (h5 : dp + n ≤ (n1 : Int)) : cCp n0 n1 sp dp n A = A := by
  unfold cCp; rw [if_pos ⟨h1, h2, h3, h4, h5⟩]
theorem rdA_t {f : Int → Int} {n : Nat} {x : Int} (h1 : 0 ≤ x) (h2 : x < (n : Int)) : rdA f n x = some (f x) := by
  unfold rdA; rw [if_pos ⟨h1, h2⟩]
theorem ob_e {α γ : Type} {a : α} {K : α → Option γ} : Option.bind (some a) K = K a := rfl
theorem bd1_e {α γ : Type} {a : α} {K : α → Option γ} : bd1 (some a) K = K a := rfl
theorem bd2_e {α0 α1 γ : Type} {a0 : α0} {a1 : α1} {K : α0 → α1 → Option γ} : bd2 (some (a0, a1)) K = K a0 a1 := rfl
theorem bd3_e {α0 α1 α2 γ : Type} {a0 : α0} {a1 : α1} {a2 : α2} {K : α0 → α1 → α2 → Option γ} : bd3 (some (a0, a1, a2)) K = K a0 a1 a2 := rfl
theorem bd4_e {α0 α1 α2 α3 γ : Type} {a0 : α0} {a1 : α1} {a2 : α2} {a3 : α3} {K : α0 → α1 → α2 → α3 → Option γ} : bd4 (some (a0, a1, a2, a3)) K = K a0 a1 a2 a3 := rfl
theorem bd5_e {α0 α1 α2 α3 α4 γ : Type} {a0 : α0} {a1 : α1} {a2 : α2} {a3 : α3} {a4 : α4} {K : α0 → α1 → α2 → α3 → α4 → Option γ} : bd5 (some (a0, a1, a2, a3, a4)) K = K a0 a1 a2 a3 a4 := rfl
theorem bd6_e {α0 α1 α2 α3 α4 α5 γ : Type} {a0 : α0} {a1 : α1} {a2 : α2} {a3 : α3} {a4 : α4} {a5 : α5} {K : α0 → α1 → α2 → α3 → α4 → α5 → Option γ} : bd6 (some (a0, a1, a2, a3, a4, a5)) K = K a0 a1 a2 a3 a4 a5 := rfl
theorem bd7_e {α0 α1 α2 α3 α4 α5 α6 γ : Type} {a0 : α0} {a1 : α1} {a2 : α2} {a3 : α3} {a4 : α4} {a5 : α5} {a6 : α6} {K : α0 → α1 → α2 → α3 → α4 → α5 → α6 → Option γ} : bd7 (some (a0, a1, a2, a3, a4, a5, a6)) K = K a0 a1 a2 a3 a4 a5 a6 := rfl
theorem bd8_e {α0 α1 α2 α3 α4 α5 α6 α7 γ : Type} {a0 : α0} {a1 : α1} {a2 : α2} {a3 : α3} {a4 : α4} {a5 : α5} {a6 : α6} {a7 : α7} {K : α0 → α1 → α2 → α3 → α4 → α5 → α6 → α7 → Option γ} : bd8 (some (a0, a1, a2, a3, a4, a5, a6, a7)) K = K a0 a1 a2 a3 a4 a5 a6 a7 := rfl
theorem bd9_e {α0 α1 α2 α3 α4 α5 α6 α7 α8 γ : Type} {a0 : α0} {a1 : α1} {a2 : α2} {a3 : α3} {a4 : α4} {a5 : α5} {a6 : α6} {a7 : α7} {a8 : α8} {K : α0 → α1 → α2 → α3 → α4 → α5 → α6 → α7 → α8 → Option γ} : bd9 (some (a0, a1, a2, a3, a4, a5, a6, a7, a8)) K = K a0 a1 a2 a3 a4 a5 a6 a7 a8 := rfl
theorem bd10_e {α0 α1 α2 α3 α4 α5 α6 α7 α8 α9 γ : Type} {a0 : α0} {a1 : α1} {a2 : α2} {a3 : α3} {a4 : α4} {a5 : α5} {a6 : α6} {a7 : α7} {a8 : α8} {a9 : α9} {K : α0 → α1 → α2 → α3 → α4 → α5 → α6 → α7 → α8 → α9 → Option γ} : bd10 (some (a0, a1, a2, a3, a4, a5, a6, a7, a8, a9)) K = K a0 a1 a2 a3 a4 a5 a6 a7 a8 a9 := rfl
theorem bd12_e {α0 α1 α2 α3 α4 α5 α6 α7 α8 α9 α10 α11 γ : Type} {a0 : α0} {a1 : α1} {a2 : α2} {a3 : α3} {a4 : α4} {a5 : α5} {a6 : α6} {a7 : α7} {a8 : α8} {a9 : α9} {a10 : α10} {a11 : α11} {K : α0 → α1 → α2 → α3 → α4 → α5 → α6 → α7 → α8 → α9 → α10 → α11 → Option γ} : bd12 (some (a0, a1, a2, a3, a4, a5, a6, a7, a8, a9, a10, a11)) K = K a0 a1 a2 a3 a4 a5 a6 a7 a8 a9 a10 a11 := rfl
theorem upA_s {f : Int → Int} {k v : Int} : upA f k v k = v := if_pos rfl
theorem upA_n {f : Int → Int} {k v j : Int} (h : j ≠ k) : upA f k v j = f j := if_neg h
/-- a loop by a measure that falls -/
theorem loopR {σ ρ : Type} (loop : Nat → σ → Option ρ) (μ : σ → Nat) (I : σ → Prop) (Post : ρ → Prop)
    (step : ∀ (fu : Nat) (st : σ), I st → (∃ r, loop (fu + 1) st = some r ∧ Post r) ∨ (∃ st', I st' ∧ μ st' < μ st ∧ loop (fu + 1) st = loop fu st')) :
    ∀ (fu : Nat) (st : σ), I st → μ st < fu → ∃ r, loop fu st = some r ∧ Post r := by
  intro fu
  induction fu with
  | zero => intro st _ h; omega
  | succ fu ih =>
    intro st hI hm
    rcases step fu st hI with h | ⟨st', h1, h2, h3⟩
    · exact h
    · obtain ⟨r, h4, h5⟩ := ih st' h1 (by omega)
      exact ⟨r, by rw [h3]; exact h4, h5⟩
/-- an answer 1 or 0 -/
def BB (r : Int) (P : Prop) : Prop := (r = 1 ∧ P) ∨ (r = 0 ∧ ¬ P)
theorem BB_eq {r s : Int} {P Q : Prop} (h : BB r P) (g : BB s Q) (e : P ↔ Q) : r = s := by
  rcases h with ⟨h1, h2⟩ | ⟨h1, h2⟩ <;> rcases g with ⟨g1, g2⟩ | ⟨g1, g2⟩
  · omega
  · exact absurd (e.mp h2) g2
  · exact absurd (e.mpr g2) h2
  · omega
theorem BB_rg {r : Int} {P : Prop} (h : BB r P) : 0 ≤ r ∧ r ≤ 1 := by
  rcases h with ⟨h, -⟩ | ⟨h, -⟩ <;> omega
/-! ===== folding ===== -/
def fo (on c : Int) : Int := if on = 0 then c else if 65 ≤ c ∧ c ≤ 90 then c + 32 else c
theorem fo_rg {on c : Int} (h1 : -1 ≤ c) (h2 : c < 256) : -1 ≤ fo on c ∧ fo on c < 256 := by
  unfold fo; split <;> (try split) <;> omega
theorem X2_fold_e {on c : Int} (o1 : 0 ≤ on) (o2 : on ≤ 1) (h1 : -1 ≤ c) (h2 : c < 256) : s_X2_fold on c = some (fo on c) := by
  unfold s_X2_fold fo
  by_cases h : on = 0
  · simp (disch := omega) only [cLt_t, cLt_f, cEq_t, cEq_f, cLtL_t, cLtL_f, cEqL_t, cEqL_f, cR_t, cRL_t, cZ_t, cN_t, cCp_t, rdA_t, ob_e, bd1_e, bd2_e, bd3_e, bd4_e, bd5_e, bd6_e, bd7_e, bd8_e, bd9_e, bd10_e, bd12_e, if_pos h]
  · by_cases h3 : c < 65
    · simp (disch := omega) only [cLt_t, cLt_f, cEq_t, cEq_f, cLtL_t, cLtL_f, cEqL_t, cEqL_f, cR_t, cRL_t, cZ_t, cN_t, cCp_t, rdA_t, ob_e, bd1_e, bd2_e, bd3_e, bd4_e, bd5_e, bd6_e, bd7_e, bd8_e, bd9_e, bd10_e, bd12_e, if_neg h]
      rw [if_neg (by omega)]
    · by_cases h4 : 90 < c
      · simp (disch := omega) only [cLt_t, cLt_f, cEq_t, cEq_f, cLtL_t, cLtL_f, cEqL_t, cEqL_f, cR_t, cRL_t, cZ_t, cN_t, cCp_t, rdA_t, ob_e, bd1_e, bd2_e, bd3_e, bd4_e, bd5_e, bd6_e, bd7_e, bd8_e, bd9_e, bd10_e, bd12_e, if_neg h]
        rw [if_neg (by omega)]
      · simp (disch := omega) only [cLt_t, cLt_f, cEq_t, cEq_f, cLtL_t, cLtL_f, cEqL_t, cEqL_f, cR_t, cRL_t, cZ_t, cN_t, cCp_t, rdA_t, ob_e, bd1_e, bd2_e, bd3_e, bd4_e, bd5_e, bd6_e, bd7_e, bd8_e, bd9_e, bd10_e, bd12_e, if_neg h]
        rw [if_pos (by omega)]
        congr 1; omega
theorem X8_isIn_e {v a b : Int} (h1 : -9223372036854775808 ≤ v) (h2 : v < 9223372036854775808) (h3 : -9223372036854775808 ≤ a) (h4 : a < 9223372036854775808) (h5 : -9223372036854775808 ≤ b) (h6 : b < 9223372036854775808) : s_X8_isIn v a b = some (if a ≤ v ∧ v ≤ b then 1 else 0) := by
  unfold s_X8_isIn
  by_cases h : v < a
  · simp (disch := omega) only [cLt_t, cLt_f, cEq_t, cEq_f, cLtL_t, cLtL_f, cEqL_t, cEqL_f, cR_t, cRL_t, cZ_t, cN_t, cCp_t, rdA_t, ob_e, bd1_e, bd2_e, bd3_e, bd4_e, bd5_e, bd6_e, bd7_e, bd8_e, bd9_e, bd10_e, bd12_e]; rw [if_neg (by omega)]
  · by_cases h' : b < v
    · simp (disch := omega) only [cLt_t, cLt_f, cEq_t, cEq_f, cLtL_t, cLtL_f, cEqL_t, cEqL_f, cR_t, cRL_t, cZ_t, cN_t, cCp_t, rdA_t, ob_e, bd1_e, bd2_e, bd3_e, bd4_e, bd5_e, bd6_e, bd7_e, bd8_e, bd9_e, bd10_e, bd12_e]; rw [if_neg (by omega)]
    · simp (disch := omega) only [cLt_t, cLt_f, cEq_t, cEq_f, cLtL_t, cLtL_f, cEqL_t, cEqL_f, cR_t, cRL_t, cZ_t, cN_t, cCp_t, rdA_t, ob_e, bd1_e, bd2_e, bd3_e, bd4_e, bd5_e, bd6_e, bd7_e, bd8_e, bd9_e, bd10_e, bd12_e]; rw [if_pos (by omega)]
theorem X8_folded_e {on c : Int} (o1 : 0 ≤ on) (o2 : on ≤ 1) (h1 : -1 ≤ c) (h2 : c < 256) : s_X8_folded on c = some (fo on c) := by
  unfold s_X8_folded fo
  by_cases h : on = 0
  · simp (disch := omega) only [cLt_t, cLt_f, cEq_t, cEq_f, cLtL_t, cLtL_f, cEqL_t, cEqL_f, cR_t, cRL_t, cZ_t, cN_t, cCp_t, rdA_t, ob_e, bd1_e, bd2_e, bd3_e, bd4_e, bd5_e, bd6_e, bd7_e, bd8_e, bd9_e, bd10_e, bd12_e, if_pos h]
  · by_cases h3 : 65 ≤ c ∧ c ≤ 90
    · simp (disch := omega) only [cLt_t, cLt_f, cEq_t, cEq_f, cLtL_t, cLtL_f, cEqL_t, cEqL_f, cR_t, cRL_t, cZ_t, cN_t, cCp_t, rdA_t, ob_e, bd1_e, bd2_e, bd3_e, bd4_e, bd5_e, bd6_e, bd7_e, bd8_e, bd9_e, bd10_e, bd12_e, if_neg h, X8_isIn_e, if_pos h3]
    · simp (disch := omega) only [cLt_t, cLt_f, cEq_t, cEq_f, cLtL_t, cLtL_f, cEqL_t, cEqL_f, cR_t, cRL_t, cZ_t, cN_t, cCp_t, rdA_t, ob_e, bd1_e, bd2_e, bd3_e, bd4_e, bd5_e, bd6_e, bd7_e, bd8_e, bd9_e, bd10_e, bd12_e, if_neg h, X8_isIn_e, if_neg h3]
theorem X8_like_e {on a b : Int} (o1 : 0 ≤ on) (o2 : on ≤ 1) (h1 : -1 ≤ a) (h2 : a < 256) (h3 : -1 ≤ b) (h4 : b < 256) : s_X8_like on a b = some (if fo on a = fo on b then 1 else 0) := by
  have ha := fo_rg (on := on) h1 h2
  have hb := fo_rg (on := on) h3 h4
  unfold s_X8_like
  by_cases h : fo on a = fo on b
  · simp (disch := omega) only [cLt_t, cLt_f, cEq_t, cEq_f, cLtL_t, cLtL_f, cEqL_t, cEqL_f, cR_t, cRL_t, cZ_t, cN_t, cCp_t, rdA_t, ob_e, bd1_e, bd2_e, bd3_e, bd4_e, bd5_e, bd6_e, bd7_e, bd8_e, bd9_e, bd10_e, bd12_e, X8_folded_e, if_pos h]
  · simp (disch := omega) only [cLt_t, cLt_f, cEq_t, cEq_f, cLtL_t, cLtL_f, cEqL_t, cEqL_f, cR_t, cRL_t, cZ_t, cN_t, cCp_t, rdA_t, ob_e, bd1_e, bd2_e, bd3_e, bd4_e, bd5_e, bd6_e, bd7_e, bd8_e, bd9_e, bd10_e, bd12_e, X8_folded_e, if_neg h]
theorem X8_byteOf_e {f : Int → Int} {k i : Int} (h1 : 0 ≤ 16 * k + i) (h2 : 16 * k + i < 1920) : s_X8_byteOf f k i = some (f (16 * k + i)) := by
  unfold s_X8_byteOf
  simp (disch := omega) only [cLt_t, cLt_f, cEq_t, cEq_f, cLtL_t, cLtL_f, cEqL_t, cEqL_f, cR_t, cRL_t, cZ_t, cN_t, cCp_t, rdA_t, ob_e, bd1_e, bd2_e, bd3_e, bd4_e, bd5_e, bd6_e, bd7_e, bd8_e, bd9_e, bd10_e, bd12_e]
/-- two runs of bytes are equal under folding -/
def RE (on : Int) (f : Int → Int) (a : Int) (g : Int → Int) (b : Int) (n : Int) : Prop := ∀ j : Int, 0 ≤ j → j < n → fo on (f (a + j)) = fo on (g (b + j))
/-- a run's bytes are bytes, or -1 -/
def RB (f : Int → Int) (a n : Int) : Prop := ∀ j : Int, 0 ≤ j → j < n → -1 ≤ f (a + j) ∧ f (a + j) < 256
theorem RE.symm {on : Int} {f g : Int → Int} {a b n : Int} (h : RE on f a g b n) : RE on g b f a n := fun j h1 h2 => (h j h1 h2).symm
theorem RE.trans {on : Int} {f g k : Int → Int} {a b c n : Int} (h : RE on f a g b n) (h' : RE on g b k c n) : RE on f a k c n := fun j h1 h2 => (h j h1 h2).trans (h' j h1 h2)
theorem RE.le {on : Int} {f g : Int → Int} {a b n m : Int} (h : RE on f a g b n) (hm : m ≤ n) : RE on f a g b m := fun j h1 h2 => h j h1 (by omega)
theorem X8_isInStream_19_e {on k a n : Int} {bytes str : Int → Int} (o1 : 0 ≤ on) (o2 : on ≤ 1) (hk1 : 0 ≤ k) (hk2 : k < 120) (hn1 : 0 ≤ n) (hn : n ≤ 16) (ha1 : 0 ≤ a) (ha2 : a + n ≤ 600) (hB : RB bytes (16 * k) n) (hS : RB str a n) {fu : Nat} (hf : 20 < fu) : ∃ r, s_X8_isInStream_19 fu on bytes str k a n 0 = some r ∧ BB r (RE on bytes (16 * k) str a n) := by
  refine loopR (fun fu i => s_X8_isInStream_19 fu on bytes str k a n i) (fun i => (n - i).toNat) (fun i => 0 ≤ i ∧ i ≤ n ∧ ∀ j, 0 ≤ j → j < i → j < n → fo on (bytes (16 * k + j)) = fo on (str (a + j))) (fun r => BB r (RE on bytes (16 * k) str a n)) ?_ fu 0 ⟨by omega, by omega, fun j h1 h2 => by omega⟩ (by omega)
  intro fu i ⟨hi, hi2, hI⟩
  simp only [s_X8_isInStream_19_s]
  by_cases h : i < n
  · have h1 := hB i hi h
    have h2 := hS i hi h
    by_cases he : fo on (bytes (16 * k + i)) = fo on (str (a + i))
    · right
      refine ⟨i + 1, ⟨by omega, by omega, fun j h3 h4 h5 => ?_⟩, by omega, ?_⟩
      · by_cases hj : j = i
        · subst hj; exact he
        · exact hI j h3 (by omega) h5
      · simp (disch := omega) only [cLt_t, cLt_f, cEq_t, cEq_f, cLtL_t, cLtL_f, cEqL_t, cEqL_f, cR_t, cRL_t, cZ_t, cN_t, cCp_t, rdA_t, ob_e, bd1_e, bd2_e, bd3_e, bd4_e, bd5_e, bd6_e, bd7_e, bd8_e, bd9_e, bd10_e, bd12_e, X8_byteOf_e, X8_like_e, if_pos he]
    · left
      refine ⟨0, ?_, Or.inr ⟨rfl, fun hR => he (hR i hi h)⟩⟩
      simp (disch := omega) only [cLt_t, cLt_f, cEq_t, cEq_f, cLtL_t, cLtL_f, cEqL_t, cEqL_f, cR_t, cRL_t, cZ_t, cN_t, cCp_t, rdA_t, ob_e, bd1_e, bd2_e, bd3_e, bd4_e, bd5_e, bd6_e, bd7_e, bd8_e, bd9_e, bd10_e, bd12_e, X8_byteOf_e, X8_like_e, if_neg he]
  · left
    refine ⟨1, ?_, Or.inl ⟨rfl, fun j h3 h4 => hI j h3 (by omega) h4⟩⟩
    simp (disch := omega) only [cLt_t, cLt_f, cEq_t, cEq_f, cLtL_t, cLtL_f, cEqL_t, cEqL_f, cR_t, cRL_t, cZ_t, cN_t, cCp_t, rdA_t, ob_e, bd1_e, bd2_e, bd3_e, bd4_e, bd5_e, bd6_e, bd7_e, bd8_e, bd9_e, bd10_e, bd12_e]
theorem FU_lt {n : Nat} (h : n < 1000000) : n < FU := h
theorem X8_isInStream_e {on sl k a n : Int} {bytes str : Int → Int} (o1 : 0 ≤ on) (o2 : on ≤ 1) (hk1 : 0 ≤ k) (hk2 : k < 120) (hn1 : 0 ≤ n) (hn : n ≤ 16) (hs1 : 0 ≤ sl) (hs2 : sl ≤ 600) (ha1 : -1000 ≤ a) (ha2 : a ≤ 1000) (hB : RB bytes (16 * k) n) (hS : RB str 0 sl) : ∃ r, s_X8_isInStream on sl bytes str k a n = some r ∧ BB r (0 ≤ a ∧ a + n ≤ sl ∧ RE on bytes (16 * k) str a n) := by
  unfold s_X8_isInStream
  by_cases h : a < 0
  · refine ⟨0, ?_, Or.inr ⟨rfl, fun q => by omega⟩⟩
    simp (disch := omega) only [cLt_t, cLt_f, cEq_t, cEq_f, cLtL_t, cLtL_f, cEqL_t, cEqL_f, cR_t, cRL_t, cZ_t, cN_t, cCp_t, rdA_t, ob_e, bd1_e, bd2_e, bd3_e, bd4_e, bd5_e, bd6_e, bd7_e, bd8_e, bd9_e, bd10_e, bd12_e]
  · by_cases h' : sl < a + n
    · refine ⟨0, ?_, Or.inr ⟨rfl, fun q => by omega⟩⟩
      simp (disch := omega) only [cLt_t, cLt_f, cEq_t, cEq_f, cLtL_t, cLtL_f, cEqL_t, cEqL_f, cR_t, cRL_t, cZ_t, cN_t, cCp_t, rdA_t, ob_e, bd1_e, bd2_e, bd3_e, bd4_e, bd5_e, bd6_e, bd7_e, bd8_e, bd9_e, bd10_e, bd12_e]
    · obtain ⟨r, h1, h2⟩ := X8_isInStream_19_e (on := on) (k := k) (a := a) (n := n) (bytes := bytes) (str := str) o1 o2 hk1 hk2 hn1 hn (by omega) (by omega) hB (fun j h1 h2 => by have := hS (a + j) (by omega) (by omega); rw [Int.zero_add] at this; exact this) (fu := FU) (FU_lt (by omega))
      refine ⟨r, ?_, ?_⟩
      · simp (disch := omega) only [cLt_t, cLt_f, cEq_t, cEq_f, cLtL_t, cLtL_f, cEqL_t, cEqL_f, cR_t, cRL_t, cZ_t, cN_t, cCp_t, rdA_t, ob_e, bd1_e, bd2_e, bd3_e, bd4_e, bd5_e, bd6_e, bd7_e, bd8_e, bd9_e, bd10_e, bd12_e, h1]
      · rcases h2 with ⟨h2, h3⟩ | ⟨h2, h3⟩
        · exact Or.inl ⟨h2, by omega, by omega, h3⟩
        · exact Or.inr ⟨h2, fun q => h3 q.2.2⟩
theorem X8_isBuffer_e {on k n : Int} {len bytes buf : Int → Int} (o1 : 0 ≤ on) (o2 : on ≤ 1) (hk1 : 0 ≤ k) (hk2 : k < 120) (hn1 : -1000 ≤ n) (hn : n ≤ 200) (hl1 : 0 ≤ len k) (hl2 : len k ≤ 16) (hB : RB bytes (16 * k) (len k)) (hS : RB buf 0 n) : ∃ r, s_X8_isBuffer on buf len bytes k n = some r ∧ BB r (len k = n ∧ RE on bytes (16 * k) buf 0 n) := by
  unfold s_X8_isBuffer
  by_cases h0 : len k = n
  · have := loopR (fun fu i => s_X8_isBuffer_14 fu on buf bytes k n i) (fun i => (n - i).toNat) (fun i => 0 ≤ i ∧ i ≤ n ∧ ∀ j, 0 ≤ j → j < i → j < n → fo on (bytes (16 * k + j)) = fo on (buf (0 + j))) (fun r => BB r (RE on bytes (16 * k) buf 0 n)) ?_ FU 0 ⟨by omega, by omega, fun j h1 h2 => by omega⟩ (FU_lt (by omega))
    · obtain ⟨r, h1, h2⟩ := this
      refine ⟨r, ?_, ?_⟩
      · simp (disch := omega) only [cLt_t, cLt_f, cEq_t, cEq_f, cLtL_t, cLtL_f, cEqL_t, cEqL_f, cR_t, cRL_t, cZ_t, cN_t, cCp_t, rdA_t, ob_e, bd1_e, bd2_e, bd3_e, bd4_e, bd5_e, bd6_e, bd7_e, bd8_e, bd9_e, bd10_e, bd12_e, h1]
      · rcases h2 with ⟨h2, h3⟩ | ⟨h2, h3⟩
        · exact Or.inl ⟨h2, h0, h3⟩
        · exact Or.inr ⟨h2, fun q => h3 q.2⟩
    · intro fu i ⟨hi, hi2, hI⟩
      simp only [s_X8_isBuffer_14_s]
      by_cases h : i < n
      · have h1 := hB i hi (by omega)
        have h2 := hS i hi h
        rw [Int.zero_add] at h2
        by_cases he : fo on (bytes (16 * k + i)) = fo on (buf i)
        · right
          refine ⟨i + 1, ⟨by omega, by omega, fun j h3 h4 h5 => ?_⟩, by omega, ?_⟩
          · by_cases hj : j = i
            · subst hj; rw [Int.zero_add]; exact he
            · exact hI j h3 (by omega) h5
          · simp (disch := omega) only [cLt_t, cLt_f, cEq_t, cEq_f, cLtL_t, cLtL_f, cEqL_t, cEqL_f, cR_t, cRL_t, cZ_t, cN_t, cCp_t, rdA_t, ob_e, bd1_e, bd2_e, bd3_e, bd4_e, bd5_e, bd6_e, bd7_e, bd8_e, bd9_e, bd10_e, bd12_e, X8_byteOf_e, X8_like_e, if_pos he]
        · left
          refine ⟨0, ?_, Or.inr ⟨rfl, fun hR => he (by have := hR i hi h; rw [Int.zero_add] at this; exact this)⟩⟩
          simp (disch := omega) only [cLt_t, cLt_f, cEq_t, cEq_f, cLtL_t, cLtL_f, cEqL_t, cEqL_f, cR_t, cRL_t, cZ_t, cN_t, cCp_t, rdA_t, ob_e, bd1_e, bd2_e, bd3_e, bd4_e, bd5_e, bd6_e, bd7_e, bd8_e, bd9_e, bd10_e, bd12_e, X8_byteOf_e, X8_like_e, if_neg he]
      · left
        refine ⟨1, ?_, Or.inl ⟨rfl, fun j h3 h4 => hI j h3 (by omega) h4⟩⟩
        simp (disch := omega) only [cLt_t, cLt_f, cEq_t, cEq_f, cLtL_t, cLtL_f, cEqL_t, cEqL_f, cR_t, cRL_t, cZ_t, cN_t, cCp_t, rdA_t, ob_e, bd1_e, bd2_e, bd3_e, bd4_e, bd5_e, bd6_e, bd7_e, bd8_e, bd9_e, bd10_e, bd12_e]
  · refine ⟨0, ?_, Or.inr ⟨rfl, fun q => h0 q.1⟩⟩
    simp (disch := omega) only [cLt_t, cLt_f, cEq_t, cEq_f, cLtL_t, cLtL_f, cEqL_t, cEqL_f, cR_t, cRL_t, cZ_t, cN_t, cCp_t, rdA_t, ob_e, bd1_e, bd2_e, bd3_e, bd4_e, bd5_e, bd6_e, bd7_e, bd8_e, bd9_e, bd10_e, bd12_e]
/-! ===== the class's comparisons ===== -/
/-- how far two runs are equal: r of at most n bytes -/
def LC (on : Int) (f : Int → Int) (a : Int) (g : Int → Int) (b : Int) (n r : Int) : Prop := 0 ≤ r ∧ r ≤ n ∧ RE on f a g b r ∧ (r = n ∨ fo on (f (a + r)) ≠ fo on (g (b + r)))
theorem LC.uniq {on : Int} {f g : Int → Int} {a b n r s : Int} (h : LC on f a g b n r) (k : LC on f a g b n s) : r = s := by
  obtain ⟨h1, h2, h3, h4⟩ := h
  obtain ⟨k1, k2, k3, k4⟩ := k
  rcases Int.lt_trichotomy r s with q | q | q
  · rcases h4 with h4 | h4
    · omega
    · exact absurd (k3 r h1 q) h4
  · exact q
  · rcases k4 with k4 | k4
    · omega
    · exact absurd (h3 s k1 q) k4
theorem LC.full {on : Int} {f g : Int → Int} {a b n r : Int} (h : LC on f a g b n r) : r = n ↔ RE on f a g b n := by
  obtain ⟨h1, h2, h3, h4⟩ := h
  constructor
  · intro q; rw [← q]; exact h3
  · intro q
    rcases h4 with h4 | h4
    · exact h4
    · by_cases hn : r = n
      · exact hn
      · exact absurd (q r h1 (by omega)) h4
theorem LC.ge {on : Int} {f g : Int → Int} {a b n r m : Int} (h : LC on f a g b n r) (h0 : 0 ≤ m) (hm : m ≤ n) : m ≤ r ↔ RE on f a g b m := by
  obtain ⟨h1, h2, h3, h4⟩ := h
  constructor
  · intro q; exact h3.le q
  · intro q
    rcases h4 with h4 | h4
    · omega
    · rcases Int.lt_or_le r m with q2 | q2
      · exact absurd (q r h1 q2) h4
      · exact q2
theorem X2_commonPrefix_e {m0 m2 : Nat} {on a b n : Int} {f g : Int → Int} (o1 : 0 ≤ on) (o2 : on ≤ 1) (hm0 : m0 ≤ 100000) (hm2 : m2 ≤ 100000) (hn1 : 0 ≤ n) (hn : n ≤ 100000) (ha : 0 ≤ a) (hb : 0 ≤ b) (ha2 : a + n ≤ (m0 : Int)) (hb2 : b + n ≤ (m2 : Int)) (hF : RB f a n) (hG : RB g b n) : ∃ r, s_X2_commonPrefix m0 m2 on f g a b n = some r ∧ LC on f a g b n r := by
  unfold s_X2_commonPrefix
  have e1 : iMin n (iMin ((m0 : Int) - a) ((m2 : Int) - b)) = n := by
    unfold iMin
    split <;> split at * <;> omega
  have e2 : -2147483648 ≤ iMin ((m0 : Int) - a) ((m2 : Int) - b) ∧ iMin ((m0 : Int) - a) ((m2 : Int) - b) < 2147483648 := by
    unfold iMin
    split <;> omega
  have := loopR (fun fu i => s_X2_commonPrefix_33 m0 m2 fu on f g a b n i) (fun i => (n - i).toNat) (fun i => 0 ≤ i ∧ i ≤ n ∧ RE on f a g b i) (fun r => LC on f a g b n r) ?_ FU 0 ⟨by omega, by omega, fun j h1 h2 => by omega⟩ (FU_lt (by omega))
  · obtain ⟨r, h1, h2⟩ := this
    refine ⟨r, ?_, h2⟩
    have h1 : s_X2_commonPrefix_33 m0 m2 FU on f g a b n 0 = some r := h1
    simp (disch := omega) only [cLt_t, cLt_f, cEq_t, cEq_f, cLtL_t, cLtL_f, cEqL_t, cEqL_f, cR_t, cRL_t, cZ_t, cN_t, cCp_t, rdA_t, ob_e, bd1_e, bd2_e, bd3_e, bd4_e, bd5_e, bd6_e, bd7_e, bd8_e, bd9_e, bd10_e, bd12_e, e1, h1]
  · intro fu i ⟨hi, hi2, hI⟩
    simp only [s_X2_commonPrefix_33_s]
    by_cases h : i < n
    · have h1 := hF i hi h
      have h2 := hG i hi h
      have q1 := fo_rg (on := on) h1.1 h1.2
      have q2 := fo_rg (on := on) h2.1 h2.2
      by_cases he : fo on (f (a + i)) = fo on (g (b + i))
      · right
        refine ⟨i + 1, ⟨by omega, by omega, fun j h3 h4 => ?_⟩, by omega, ?_⟩
        · by_cases hj : j = i
          · subst hj; exact he
          · exact hI j h3 (by omega)
        · simp (disch := omega) only [cLt_t, cLt_f, cEq_t, cEq_f, cLtL_t, cLtL_f, cEqL_t, cEqL_f, cR_t, cRL_t, cZ_t, cN_t, cCp_t, rdA_t, ob_e, bd1_e, bd2_e, bd3_e, bd4_e, bd5_e, bd6_e, bd7_e, bd8_e, bd9_e, bd10_e, bd12_e, X2_fold_e]
      · left
        refine ⟨i, ?_, hi, hi2, hI, Or.inr he⟩
        simp (disch := omega) only [cLt_t, cLt_f, cEq_t, cEq_f, cLtL_t, cLtL_f, cEqL_t, cEqL_f, cR_t, cRL_t, cZ_t, cN_t, cCp_t, rdA_t, ob_e, bd1_e, bd2_e, bd3_e, bd4_e, bd5_e, bd6_e, bd7_e, bd8_e, bd9_e, bd10_e, bd12_e, X2_fold_e]
    · left
      have e3 : iMax n 0 = n := by unfold iMax; split <;> omega
      refine ⟨n, ?_, hn1, by omega, hI.le (by omega), Or.inl rfl⟩
      simp (disch := omega) only [cLt_t, cLt_f, cEq_t, cEq_f, cLtL_t, cLtL_f, cEqL_t, cEqL_f, cR_t, cRL_t, cZ_t, cN_t, cCp_t, rdA_t, ob_e, bd1_e, bd2_e, bd3_e, bd4_e, bd5_e, bd6_e, bd7_e, bd8_e, bd9_e, bd10_e, bd12_e, e3]
theorem X2_same_e {m0 m2 : Nat} {on a b n : Int} {f g : Int → Int} (o1 : 0 ≤ on) (o2 : on ≤ 1) (hm0 : m0 ≤ 100000) (hm2 : m2 ≤ 100000) (hn1 : 0 ≤ n) (hn : n ≤ 100000) (ha : 0 ≤ a) (hb : 0 ≤ b) (ha2 : a + n ≤ (m0 : Int)) (hb2 : b + n ≤ (m2 : Int)) (hF : RB f a n) (hG : RB g b n) : ∃ r, s_X2_same m0 m2 on f g a b n = some r ∧ BB r (RE on f a g b n) := by
  obtain ⟨r, h1, h2⟩ := X2_commonPrefix_e (on := on) (a := a) (b := b) (n := n) (f := f) (g := g) o1 o2 hm0 hm2 hn1 hn ha hb ha2 hb2 hF hG
  have h3 := h2.1
  have h4 := h2.2.1
  unfold s_X2_same
  by_cases h : r = n
  · refine ⟨1, ?_, Or.inl ⟨rfl, h2.full.mp h⟩⟩
    simp (disch := omega) only [cLt_t, cLt_f, cEq_t, cEq_f, cLtL_t, cLtL_f, cEqL_t, cEqL_f, cR_t, cRL_t, cZ_t, cN_t, cCp_t, rdA_t, ob_e, bd1_e, bd2_e, bd3_e, bd4_e, bd5_e, bd6_e, bd7_e, bd8_e, bd9_e, bd10_e, bd12_e, h1]
  · refine ⟨0, ?_, Or.inr ⟨rfl, fun q => h (h2.full.mpr q)⟩⟩
    simp (disch := omega) only [cLt_t, cLt_f, cEq_t, cEq_f, cLtL_t, cLtL_f, cEqL_t, cEqL_f, cR_t, cRL_t, cZ_t, cN_t, cCp_t, rdA_t, ob_e, bd1_e, bd2_e, bd3_e, bd4_e, bd5_e, bd6_e, bd7_e, bd8_e, bd9_e, bd10_e, bd12_e, h1]
