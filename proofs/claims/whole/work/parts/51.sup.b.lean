/-! ===== the superstring: overlaps, and the widest pair ===== -/
def mo (la lb : Int) : Int := iMin 16 (iMin la lb) - 1
theorem mo_rg {la lb : Int} (h1 : 0 ≤ la) (h2 : 0 ≤ lb) : -1 ≤ mo la lb ∧ mo la lb ≤ 15 ∧ mo la lb ≤ la - 1 ∧ mo la lb ≤ lb - 1 := by
  unfold mo iMin
  split <;> split at * <;> omega
/-- v is the overlap of the run (f, a, la) with the run (g, b, lb) -/
def OVP (on : Int) (f : Int → Int) (a la : Int) (g : Int → Int) (b lb v : Int) : Prop := DN (fun n => RE on f (a + la - n) g b n) (mo la lb) v
theorem OVP.rg {on a la b lb v : Int} {f g : Int → Int} (h : OVP on f a la g b lb v) (h1 : 0 < la) (h2 : 0 < lb) : 0 ≤ v ∧ v ≤ 15 ∧ v < la ∧ v < lb ∧ RE on f (a + la - v) g b v := by
  have := mo_rg (Int.le_of_lt h1) (Int.le_of_lt h2)
  rcases h with ⟨e, -⟩ | ⟨e1, e2, e3, -⟩
  · refine ⟨by omega, by omega, by omega, by omega, fun j x y => by omega⟩
  · exact ⟨by omega, by omega, by omega, by omega, e3⟩
theorem OVP.cg {on a la b lb v a2 b2 : Int} {f g f2 g2 : Int → Int} (h : OVP on f a la g b lb v) (h1 : 0 ≤ la) (h2 : 0 ≤ lb) (ef : ∀ j, 0 ≤ j → j < la → f2 (a2 + j) = f (a + j)) (eg : ∀ j, 0 ≤ j → j < lb → g2 (b2 + j) = g (b + j)) : OVP on f2 a2 la g2 b2 lb v := by
  have q := mo_rg h1 h2
  refine DN.congr h (fun n x y => ⟨fun r j u w => ?_, fun r j u w => ?_⟩)
  · have := r j u w
    rw [show a2 + la - n + j = a2 + (la - n + j) by omega, ef _ (by omega) (by omega), eg j u (by omega), show a + (la - n + j) = a + la - n + j by omega]
    exact this
  · have := r j u w
    rw [show a2 + la - n + j = a2 + (la - n + j) by omega, ef _ (by omega) (by omega), eg j u (by omega), show a + (la - n + j) = a + la - n + j by omega] at this
    exact this
theorem overlapOf_e {on slots al u v : Int} {st ln area : Int → Int} (o1 : 0 ≤ on) (o2 : on ≤ 1) (h : CI slots al st ln area) (hu : 0 ≤ u) (hu2 : u < slots) (hv : 0 ≤ v) (hv2 : v < slots) : ∃ r, s_X6_overlapOf on st ln area u v = some r ∧ OVP on area (st u) (ln u) area (st v) (ln v) r := by
  have su := h.seg hu hu2
  have sv := h.seg hv hv2
  have hs := h.2.1
  have q := mo_rg su.2.1 sv.2.1
  have qm : -2147483648 ≤ iMin (ln u) (ln v) ∧ iMin (ln u) (ln v) < 2147483648 := by unfold iMin; split <;> omega
  obtain ⟨r, h1, h2⟩ := X2_overlap_e (m0 := 640) (m2 := 640) (on := on) (e := st u + ln u) (b := st v) (most := mo (ln u) (ln v)) (f := area) (g := area) o1 o2 (by omega) (by omega) q.1 (by omega) (by omega) (by omega) (by omega) (by omega) (fun j x y => by
      have := h.2.2.2.2.2 (st u + ln u - mo (ln u) (ln v) + j) (by omega) (by omega)
      omega) (fun j x y => by
      have := h.2.2.2.2.2 (st v + j) (by omega) (by omega)
      omega)
  refine ⟨r, ?_, h2⟩
  have h1 : s_X2_overlap 640 640 on area area (st u + ln u) (st v) (iMin 16 (iMin (ln u) (ln v)) - 1) = some r := h1
  unfold s_X6_overlapOf
  simp (disch := omega) only [cLt_t, cLt_f, cEq_t, cEq_f, cLtL_t, cLtL_f, cEqL_t, cEqL_f, cR_t, cRL_t, cZ_t, cN_t, cCp_t, rdA_t, ob_e, bd1_e, bd2_e, bd3_e, bd4_e, bd5_e, bd6_e, bd7_e, bd8_e, bd9_e, bd10_e, bd12_e, h1]
/-- the row of overlaps is right at (u, v) -/
def OVV (on : Int) (st ln area ov : Int → Int) (u v : Int) : Prop := OVP on area (st u) (ln u) area (st v) (ln v) (ov (u * 40 + v))
theorem measureOverlaps_e {on slots al x m : Int} {st ln area ov : Int → Int} (o1 : 0 ≤ on) (o2 : on ≤ 1) (h : CI slots al st ln area) (hx : 0 ≤ x) (hx2 : x < slots) (hm : 0 ≤ m) (hm2 : m ≤ slots) : ∃ ov2, s_X6_measureOverlaps on st ln ov area x m = some ov2 ∧ (∀ y, 0 ≤ y → y < m → y ≠ x → OVV on st ln area ov2 x y ∧ OVV on st ln area ov2 y x) ∧ (∀ u v, 0 ≤ u → u < slots → 0 ≤ v → v < slots → ¬ (u = x ∧ v < m) → ¬ (v = x ∧ u < m) → ov2 (u * 40 + v) = ov (u * 40 + v)) := by
  have hs := h.2.1
  obtain ⟨w, b1, b2⟩ := loopJ (fun fu (w : Int → Int) l => s_X6_measureOverlaps_2 fu on st ln w area x m l) (fun w => w) 0 m hm ov (fun l w => (∀ y, 0 ≤ y → y < l → y ≠ x → OVV on st ln area w x y ∧ OVV on st ln area w y x) ∧ (∀ u v, 0 ≤ u → u < slots → 0 ≤ v → v < slots → ¬ (u = x ∧ v < l) → ¬ (v = x ∧ u < l) → w (u * 40 + v) = ov (u * 40 + v))) ⟨fun y a b => by omega, fun u v a b c d e f => rfl⟩ (by
    intro fu w l g1 g2 ⟨g3, g4⟩
    obtain ⟨r, r1, r2⟩ := overlapOf_e o1 o2 h hx hx2 g1 (show l < slots by omega)
    obtain ⟨q, q1, q2⟩ := overlapOf_e o1 o2 h g1 (show l < slots by omega) hx hx2
    refine ⟨upA (upA w (x * 40 + l) r) (l * 40 + x) q, ⟨fun y a b c => ?_, fun u v a b c d e f => ?_⟩, ?_⟩
    · unfold OVV
      by_cases k : y = l
      · subst k
        rw [upA_n (show x * 40 + y ≠ y * 40 + x by omega), upA_s, upA_s]
        exact ⟨r2, q2⟩
      · rw [upA_n (show x * 40 + y ≠ l * 40 + x by omega), upA_n (show x * 40 + y ≠ x * 40 + l by omega), upA_n (show y * 40 + x ≠ l * 40 + x by omega), upA_n (show y * 40 + x ≠ x * 40 + l by omega)]
        exact g3 y a (by omega) c
    · rw [upA_n (show u * 40 + v ≠ l * 40 + x by omega), upA_n (show u * 40 + v ≠ x * 40 + l by omega)]
      exact g4 u v a b c d (by omega) (by omega)
    · simp only [s_X6_measureOverlaps_2_s]
      simp (disch := omega) only [cLt_t, cLt_f, cEq_t, cEq_f, cLtL_t, cLtL_f, cEqL_t, cEqL_f, cR_t, cRL_t, cZ_t, cN_t, cCp_t, rdA_t, ob_e, bd1_e, bd2_e, bd3_e, bd4_e, bd5_e, bd6_e, bd7_e, bd8_e, bd9_e, bd10_e, bd12_e, r1, q1]) (by
    intro fu w _
    simp only [s_X6_measureOverlaps_2_s]
    simp (disch := omega) only [cLt_t, cLt_f, cEq_t, cEq_f, cLtL_t, cLtL_f, cEqL_t, cEqL_f, cR_t, cRL_t, cZ_t, cN_t, cCp_t, rdA_t, ob_e, bd1_e, bd2_e, bd3_e, bd4_e, bd5_e, bd6_e, bd7_e, bd8_e, bd9_e, bd10_e, bd12_e]) FU (FU_lt (by omega))
  have b2 : s_X6_measureOverlaps_2 FU on st ln ov area x m 0 = some w := b2
  refine ⟨w, ?_, b1.1, b1.2⟩
  unfold s_X6_measureOverlaps
  simp (disch := omega) only [cLt_t, cLt_f, cEq_t, cEq_f, cLtL_t, cLtL_f, cEqL_t, cEqL_f, cR_t, cRL_t, cZ_t, cN_t, cCp_t, rdA_t, ob_e, bd1_e, bd2_e, bd3_e, bd4_e, bd5_e, bd6_e, bd7_e, bd8_e, bd9_e, bd10_e, bd12_e, b2]
theorem build15_e {on slots al : Int} {st ln area ov : Int → Int} (o1 : 0 ≤ on) (o2 : on ≤ 1) (h : CI slots al st ln area) : ∃ ov2, s_X6_build_15 FU slots on st ln ov area 0 = some ov2 ∧ ∀ u v, 0 ≤ u → u < slots → 0 ≤ v → v < slots → u ≠ v → OVV on st ln area ov2 u v := by
  have hs0 := h.1
  have hs := h.2.1
  obtain ⟨w, b1, b2⟩ := loopJ (fun fu (w : Int → Int) l => s_X6_build_15 fu slots on st ln w area l) (fun w => w) 0 slots hs0 ov (fun l w => ∀ u v, 0 ≤ u → u < l → 0 ≤ v → v < l → u ≠ v → OVV on st ln area w u v) (fun u v a b => by omega) (by
    intro fu w l g1 g2 g3
    obtain ⟨w2, r1, r2, r3⟩ := measureOverlaps_e (ov := w) o1 o2 h g1 g2 g1 (show l ≤ slots by omega)
    refine ⟨w2, fun u v a b c d e => ?_, ?_⟩
    · by_cases k : u = l
      · subst k
        exact (r2 v c (by omega) (by omega)).1
      · by_cases k2 : v = l
        · subst k2
          exact (r2 u a (by omega) (by omega)).2
        · have := g3 u v a (by omega) c (by omega) e
          unfold OVV at *
          rw [r3 u v a (by omega) c (by omega) (by omega) (by omega)]
          exact this
    · simp only [s_X6_build_15_s]
      simp (disch := omega) only [cLt_t, cLt_f, cEq_t, cEq_f, cLtL_t, cLtL_f, cEqL_t, cEqL_f, cR_t, cRL_t, cZ_t, cN_t, cCp_t, rdA_t, ob_e, bd1_e, bd2_e, bd3_e, bd4_e, bd5_e, bd6_e, bd7_e, bd8_e, bd9_e, bd10_e, bd12_e, r1]) (by
    intro fu w _
    simp only [s_X6_build_15_s]
    simp (disch := omega) only [cLt_t, cLt_f, cEq_t, cEq_f, cLtL_t, cLtL_f, cEqL_t, cEqL_f, cR_t, cRL_t, cZ_t, cN_t, cCp_t, rdA_t, ob_e, bd1_e, bd2_e, bd3_e, bd4_e, bd5_e, bd6_e, bd7_e, bd8_e, bd9_e, bd10_e, bd12_e]) FU (FU_lt (by omega))
  exact ⟨w, b2, b1⟩
/-- the first of the best pairs among those before (a, b) -/
def BP (m : Int) (Q : Int → Int → Prop) (f : Int → Int → Int) (a b i j v : Int) : Prop :=
  (v = -1 ∧ i = -1 ∧ j = -1 ∧ ∀ x y, 0 ≤ x → 0 ≤ y → y < m → (x < a ∨ (x = a ∧ y < b)) → ¬ Q x y) ∨
  (0 ≤ i ∧ i < m ∧ 0 ≤ j ∧ j < m ∧ (i < a ∨ (i = a ∧ j < b)) ∧ Q i j ∧ v = f i j ∧ (∀ x y, 0 ≤ x → 0 ≤ y → y < m → (x < a ∨ (x = a ∧ y < b)) → Q x y → f x y ≤ v) ∧ ∀ x y, 0 ≤ x → 0 ≤ y → y < m → (x < i ∨ (x = i ∧ y < j)) → Q x y → f x y < v)
theorem BP.skip {m a b i j v : Int} {Q : Int → Int → Prop} {f : Int → Int → Int} (h : BP m Q f a b i j v) (hq : Q a b → f a b ≤ v) : BP m Q f a (b + 1) i j v ∨ (v = -1 ∧ Q a b) := by
  by_cases hv : v = -1 ∧ Q a b
  · exact Or.inr hv
  · left
    rcases h with ⟨h1, h2, h3, h4⟩ | ⟨h1, h2, h3, h4, h5, h6, h7, h8, h9⟩
    · refine Or.inl ⟨h1, h2, h3, fun x y p q r s t => ?_⟩
      by_cases e : x = a ∧ y = b
      · rw [e.1, e.2] at t; exact hv ⟨h1, t⟩
      · exact h4 x y p q r (by omega) t
    · refine Or.inr ⟨h1, h2, h3, h4, by omega, h6, h7, fun x y p q r s t => ?_, h9⟩
      by_cases e : x = a ∧ y = b
      · rw [e.1, e.2] at t ⊢; exact hq t
      · exact h8 x y p q r (by omega) t
theorem BP.no {m a b i j v : Int} {Q : Int → Int → Prop} {f : Int → Int → Int} (h : BP m Q f a b i j v) (hq : ¬ Q a b) : BP m Q f a (b + 1) i j v := by
  rcases h.skip (fun q => absurd q hq) with q | q
  · exact q
  · exact absurd q.2 hq
theorem BP.keep {m a b i j v : Int} {Q : Int → Int → Prop} {f : Int → Int → Int} (h : BP m Q f a b i j v) (hq : f a b ≤ v) (h0 : 0 ≤ f a b) : BP m Q f a (b + 1) i j v := by
  rcases h.skip (fun _ => hq) with q | q
  · exact q
  · omega
theorem BP.put {m a b i j v : Int} {Q : Int → Int → Prop} {f : Int → Int → Int} (h : BP m Q f a b i j v) (hQ : Q a b) (hv : v < f a b) (ha : 0 ≤ a) (ha2 : a < m) (hb : 0 ≤ b) (hb2 : b < m) : BP m Q f a (b + 1) a b (f a b) := by
  have key : ∀ x y, 0 ≤ x → 0 ≤ y → y < m → (x < a ∨ (x = a ∧ y < b)) → Q x y → f x y < f a b := by
    intro x y p q r s t
    rcases h with ⟨h1, h2, h3, h4⟩ | ⟨h1, h2, h3, h4, h5, h6, h7, h8, h9⟩
    · exact absurd t (h4 x y p q r s)
    · have := h8 x y p q r s t; omega
  refine Or.inr ⟨ha, ha2, hb, hb2, by omega, hQ, rfl, fun x y p q r s t => ?_, key⟩
  by_cases e : x = a ∧ y = b
  · rw [e.1, e.2]; exact Int.le_refl _
  · exact Int.le_of_lt (key x y p q r (by omega) t)
theorem BP.row {m a i j v : Int} {Q : Int → Int → Prop} {f : Int → Int → Int} (h : BP m Q f a m i j v) : BP m Q f (a + 1) 0 i j v := by
  rcases h with ⟨h1, h2, h3, h4⟩ | ⟨h1, h2, h3, h4, h5, h6, h7, h8, h9⟩
  · exact Or.inl ⟨h1, h2, h3, fun x y p q r s => h4 x y p q r (by omega)⟩
  · exact Or.inr ⟨h1, h2, h3, h4, by omega, h6, h7, fun x y p q r s => h8 x y p q r (by omega), h9⟩
theorem BP.start {m : Int} {Q : Int → Int → Prop} {f : Int → Int → Int} : BP m Q f 0 0 (-1) (-1) (-1) := Or.inl ⟨rfl, rfl, rfl, fun x y p q r s => by omega⟩
/-- pairs of slots that are not empty -/
def QS (ln : Int → Int) (u v : Int) : Prop := u ≠ v ∧ 0 < ln u ∧ 0 < ln v
theorem widestPair_e {on slots al : Int} {st ln area ov : Int → Int} (h : CI slots al st ln area) (hO : ∀ u v, 0 ≤ u → u < slots → 0 ≤ v → v < slots → QS ln u v → OVV on st ln area ov u v) : ∃ c i j v, s_X6_widestPair slots ln ov = some c ∧ BP slots (QS ln) (fun u v => ov (u * 40 + v)) slots 0 i j v ∧ ((v = -1 ∧ c = -1) ∨ (0 ≤ v ∧ c = i * 40 + j)) := by
  have hs0 := h.1
  have hs := h.2.1
  obtain ⟨w, b1, b2⟩ := loopJ (fun fu (w : Int × Int) a => s_X6_widestPair_6 fu slots ln ov w.1 w.2 a) (fun w => w.2) 0 slots hs0 (-1, -1) (fun a w => ∃ i j, BP slots (QS ln) (fun u v => ov (u * 40 + v)) a 0 i j w.1 ∧ w.1 ≤ 15 ∧ ((w.1 = -1 ∧ w.2 = -1) ∨ (0 ≤ w.1 ∧ w.2 = i * 40 + j))) ⟨-1, -1, BP.start, by show (-1 : Int) ≤ 15; omega, Or.inl ⟨rfl, rfl⟩⟩ (by
    intro fu ⟨v, c⟩ a g1 g2 g3
    obtain ⟨w, d1, d2⟩ := loopJ (fun fu (w : Int × Int) b => s_X6_widestPair_17 fu slots ln ov w.1 w.2 a b) (fun w => w) 0 slots hs0 (v, c) (fun b w => ∃ i j, BP slots (QS ln) (fun u v => ov (u * 40 + v)) a b i j w.1 ∧ w.1 ≤ 15 ∧ ((w.1 = -1 ∧ w.2 = -1) ∨ (0 ≤ w.1 ∧ w.2 = i * 40 + j))) g3 (by
      intro fu ⟨v, c⟩ b e1 e2 ⟨i, j, e3, e4, e5⟩
      have e3 : BP slots (QS ln) (fun u v => ov (u * 40 + v)) a b i j v := e3
      have e4 : v ≤ 15 := e4
      have e5 : (v = -1 ∧ c = -1) ∨ (0 ≤ v ∧ c = i * 40 + j) := e5
      have e6 : -1 ≤ v := by omega
      have sa := h.seg g1 g2
      have sb := h.seg e1 e2
      simp only [s_X6_widestPair_17_s]
      by_cases k1 : a = b
      · refine ⟨(v, c), ⟨i, j, e3.no (fun q => q.1 k1), e4, e5⟩, ?_⟩
        simp (disch := omega) only [cLt_t, cLt_f, cEq_t, cEq_f, cLtL_t, cLtL_f, cEqL_t, cEqL_f, cR_t, cRL_t, cZ_t, cN_t, cCp_t, rdA_t, ob_e, bd1_e, bd2_e, bd3_e, bd4_e, bd5_e, bd6_e, bd7_e, bd8_e, bd9_e, bd10_e, bd12_e]
      · by_cases k2 : 0 < ln a
        · by_cases k3 : 0 < ln b
          · have hq : QS ln a b := ⟨k1, k2, k3⟩
            have ho := (hO a b g1 g2 e1 e2 hq).rg k2 k3
            by_cases k4 : v < ov (a * 40 + b)
            · refine ⟨(ov (a * 40 + b), a * 40 + b), ⟨a, b, e3.put hq k4 g1 g2 e1 e2, by show ov (a * 40 + b) ≤ 15; omega, Or.inr ⟨by show 0 ≤ ov (a * 40 + b); omega, rfl⟩⟩, ?_⟩
              simp (disch := omega) only [cLt_t, cLt_f, cEq_t, cEq_f, cLtL_t, cLtL_f, cEqL_t, cEqL_f, cR_t, cRL_t, cZ_t, cN_t, cCp_t, rdA_t, ob_e, bd1_e, bd2_e, bd3_e, bd4_e, bd5_e, bd6_e, bd7_e, bd8_e, bd9_e, bd10_e, bd12_e]
            · refine ⟨(v, c), ⟨i, j, e3.keep (by show ov (a * 40 + b) ≤ v; omega) (by show 0 ≤ ov (a * 40 + b); omega), e4, e5⟩, ?_⟩
              simp (disch := omega) only [cLt_t, cLt_f, cEq_t, cEq_f, cLtL_t, cLtL_f, cEqL_t, cEqL_f, cR_t, cRL_t, cZ_t, cN_t, cCp_t, rdA_t, ob_e, bd1_e, bd2_e, bd3_e, bd4_e, bd5_e, bd6_e, bd7_e, bd8_e, bd9_e, bd10_e, bd12_e]
          · refine ⟨(v, c), ⟨i, j, e3.no (fun q => k3 q.2.2), e4, e5⟩, ?_⟩
            simp (disch := omega) only [cLt_t, cLt_f, cEq_t, cEq_f, cLtL_t, cLtL_f, cEqL_t, cEqL_f, cR_t, cRL_t, cZ_t, cN_t, cCp_t, rdA_t, ob_e, bd1_e, bd2_e, bd3_e, bd4_e, bd5_e, bd6_e, bd7_e, bd8_e, bd9_e, bd10_e, bd12_e]
        · refine ⟨(v, c), ⟨i, j, e3.no (fun q => k2 q.2.1), e4, e5⟩, ?_⟩
          simp (disch := omega) only [cLt_t, cLt_f, cEq_t, cEq_f, cLtL_t, cLtL_f, cEqL_t, cEqL_f, cR_t, cRL_t, cZ_t, cN_t, cCp_t, rdA_t, ob_e, bd1_e, bd2_e, bd3_e, bd4_e, bd5_e, bd6_e, bd7_e, bd8_e, bd9_e, bd10_e, bd12_e]) (by
      intro fu w _
      simp only [s_X6_widestPair_17_s]
      simp (disch := omega) only [cLt_t, cLt_f, cEq_t, cEq_f, cLtL_t, cLtL_f, cEqL_t, cEqL_f, cR_t, cRL_t, cZ_t, cN_t, cCp_t, rdA_t, ob_e, bd1_e, bd2_e, bd3_e, bd4_e, bd5_e, bd6_e, bd7_e, bd8_e, bd9_e, bd10_e, bd12_e]) FU (FU_lt (by omega))
    have d2 : s_X6_widestPair_17 FU slots ln ov v c a 0 = some w := d2
    obtain ⟨i, j, f1, f2, f3⟩ := d1
    refine ⟨w, ⟨i, j, f1.row, f2, f3⟩, ?_⟩
    simp only [s_X6_widestPair_6_s]
    obtain ⟨w1, w2⟩ := w
    simp (disch := omega) only [cLt_t, cLt_f, cEq_t, cEq_f, cLtL_t, cLtL_f, cEqL_t, cEqL_f, cR_t, cRL_t, cZ_t, cN_t, cCp_t, rdA_t, ob_e, bd1_e, bd2_e, bd3_e, bd4_e, bd5_e, bd6_e, bd7_e, bd8_e, bd9_e, bd10_e, bd12_e, d2]) (by
    intro fu w _
    simp only [s_X6_widestPair_6_s]
    simp (disch := omega) only [cLt_t, cLt_f, cEq_t, cEq_f, cLtL_t, cLtL_f, cEqL_t, cEqL_f, cR_t, cRL_t, cZ_t, cN_t, cCp_t, rdA_t, ob_e, bd1_e, bd2_e, bd3_e, bd4_e, bd5_e, bd6_e, bd7_e, bd8_e, bd9_e, bd10_e, bd12_e]) FU (FU_lt (by omega))
  have b2 : s_X6_widestPair_6 FU slots ln ov (-1) (-1) 0 = some w.2 := b2
  obtain ⟨i, j, f1, f2, f3⟩ := b1
  refine ⟨w.2, i, j, w.1, ?_, f1, f3⟩
  unfold s_X6_widestPair
  simp (disch := omega) only [cLt_t, cLt_f, cEq_t, cEq_f, cLtL_t, cLtL_f, cEqL_t, cEqL_f, cR_t, cRL_t, cZ_t, cN_t, cCp_t, rdA_t, ob_e, bd1_e, bd2_e, bd3_e, bd4_e, bd5_e, bd6_e, bd7_e, bd8_e, bd9_e, bd10_e, bd12_e, b2]
theorem idiv40 : ∀ k : Fin 1600, iDiv (k.val : Int) 40 = ((k.val / 40 : Nat) : Int) := by decide +kernel
theorem irem40 : ∀ k : Fin 1600, iRem (k.val : Int) 40 = ((k.val % 40 : Nat) : Int) := by decide +kernel
theorem cell_e {i j : Int} (h1 : 0 ≤ i) (h2 : i < 40) (h3 : 0 ≤ j) (h4 : j < 40) : iDiv (i * 40 + j) 40 = i ∧ iRem (i * 40 + j) 40 = j := by
  have a : iDiv (((i * 40 + j).toNat : Nat) : Int) 40 = (((i * 40 + j).toNat / 40 : Nat) : Int) := idiv40 ⟨(i * 40 + j).toNat, by omega⟩
  have b : iRem (((i * 40 + j).toNat : Nat) : Int) 40 = (((i * 40 + j).toNat % 40 : Nat) : Int) := irem40 ⟨(i * 40 + j).toNat, by omega⟩
  have e : (((i * 40 + j).toNat : Nat) : Int) = i * 40 + j := by omega
  rw [e] at a b
  exact ⟨by rw [a]; omega, by rw [b]; omega⟩
