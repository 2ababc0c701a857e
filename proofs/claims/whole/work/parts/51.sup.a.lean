/-! ===== the superstring: the class's area ===== -/
theorem X1_appendRun_e {n0 m0 : Nat} {l sp n : Int} {f g : Int → Int} (h1 : 0 ≤ sp) (h2 : 0 ≤ n) (h3 : sp + n ≤ (m0 : Int)) (h4 : 0 ≤ l) (h5 : l + n ≤ (n0 : Int)) (h6 : m0 ≤ 100000) (h7 : n0 ≤ 100000) : s_X1_appendRun n0 m0 l f g sp n = some (l + n, cpA g f sp l n) := by
  unfold s_X1_appendRun
  simp (disch := omega) only [cLt_t, cLt_f, cEq_t, cEq_f, cLtL_t, cLtL_f, cEqL_t, cEqL_f, cR_t, cRL_t, cZ_t, cN_t, cCp_t, rdA_t, ob_e, bd1_e, bd2_e, bd3_e, bd4_e, bd5_e, bd6_e, bd7_e, bd8_e, bd9_e, bd10_e, bd12_e]
theorem cpA_in {f g : Int → Int} {sp dp n k : Int} (h1 : dp ≤ k) (h2 : k < dp + n) : cpA f g sp dp n k = f (sp + (k - dp)) := if_pos ⟨h1, h2⟩
theorem cpA_lo {f g : Int → Int} {sp dp n k : Int} (h1 : k < dp) : cpA f g sp dp n k = g k := if_neg (by omega)
/-- sums of a row's first places -/
def pf (ln : Int → Int) (s : Int) : Int := sm (fun i => ln (i : Int)) s.toNat
theorem pf_0 (ln : Int → Int) : pf ln 0 = 0 := rfl
theorem pf_s {ln : Int → Int} {s : Int} (h : 0 ≤ s) : pf ln (s + 1) = pf ln s + ln s := by
  unfold pf
  rw [show (s + 1).toNat = s.toNat + 1 by omega, sm_succ, show ((s.toNat : Nat) : Int) = s by omega]
theorem pf_mono {ln : Int → Int} {m : Int} (hp : ∀ s, 0 ≤ s → s < m → 0 ≤ ln s) : ∀ (n : Nat) (a : Int), 0 ≤ a → a + n ≤ m → pf ln a ≤ pf ln (a + n) := by
  intro n
  induction n with
  | zero => intro a _ _; rw [show a + ((0 : Nat) : Int) = a by omega]; exact Int.le_refl _
  | succ n ih =>
    intro a h1 h2
    have := ih a h1 (by omega)
    rw [show a + ((n + 1 : Nat) : Int) = a + n + 1 by omega, pf_s (by omega)]
    have := hp (a + n) (by omega) (by omega)
    omega
theorem pf_le {ln : Int → Int} {m a b : Int} (hp : ∀ s, 0 ≤ s → s < m → 0 ≤ ln s) (h1 : 0 ≤ a) (h2 : a ≤ b) (h3 : b ≤ m) : pf ln a ≤ pf ln b := by
  have := pf_mono hp (b - a).toNat a h1 (by omega)
  rw [show a + (((b - a).toNat : Nat) : Int) = b by omega] at this
  exact this
theorem pf_cg {f g : Int → Int} {s : Int} (h : ∀ i, 0 ≤ i → i < s → f i = g i) : pf f s = pf g s := sm_c (fun i hi => h i (by omega) (by omega))
theorem pf_at {ln : Int → Int} {x v s : Int} (h : 0 ≤ x) (hs : 0 ≤ s) : pf (fun i => ln i + (if i = x then v else 0)) s = pf ln s + (if x < s then v else 0) := by
  unfold pf
  rw [sm_add (fun i => ln (i : Int)) (fun i => if (i : Int) = x then v else 0)]
  have := sm_pick (f := fun _ => v) (i := x.toNat) s.toNat
  have e : sm (fun i => if (i : Int) = x then v else 0) s.toNat = sm (fun l => if l = x.toNat then v else 0) s.toNat := sm_c (fun i hi => by
    by_cases c : (i : Int) = x
    · rw [if_pos c, if_pos (by omega)]
    · rw [if_neg c, if_neg (by omega)])
  rw [e, this]
  by_cases c : x < s
  · rw [if_pos c, if_pos (by omega)]
  · rw [if_neg c, if_neg (by omega)]
/-- the class's area holds the slots one behind the other -/
def CI (slots al : Int) (st ln area : Int → Int) : Prop := 0 ≤ slots ∧ slots ≤ 40 ∧ (∀ s, 0 ≤ s → s < slots → 0 ≤ ln s ∧ st s = pf ln s) ∧ al = pf ln slots ∧ al ≤ 640 ∧ ∀ j, 0 ≤ j → j < al → 0 ≤ area j ∧ area j < 256
theorem CI.seg {slots al s : Int} {st ln area : Int → Int} (h : CI slots al st ln area) (h1 : 0 ≤ s) (h2 : s < slots) : 0 ≤ st s ∧ 0 ≤ ln s ∧ st s + ln s ≤ al ∧ al ≤ 640 := by
  obtain ⟨a, b, c, d, e, f⟩ := h
  have q := c s h1 h2
  have q1 := pf_le (fun s x y => (c s x y).1) (Int.le_refl 0) h1 (Int.le_of_lt h2)
  have q2 := pf_le (fun s x y => (c s x y).1) (show 0 ≤ s + 1 by omega) (show s + 1 ≤ slots by omega) (Int.le_refl _)
  rw [pf_s h1] at q2
  rw [pf_0] at q1
  omega
theorem CI.rb {slots al s a n : Int} {st ln area : Int → Int} (h : CI slots al st ln area) (h1 : 0 ≤ s) (h2 : s < slots) (ha : 0 ≤ a) (hn : a + n ≤ ln s) : RB area (st s + a) n := fun j x y => by
  have q := h.seg h1 h2
  have := h.2.2.2.2.2 (st s + a + j) (by omega) (by omega)
  omega
theorem layOut_e {slots x F C spl : Int} {sw : Bool} {al : Int} {st ln area spare : Int → Int} (hs : 0 ≤ slots) (hs2 : slots ≤ 40) (hx : 0 ≤ x) (hx2 : x < slots) (hst : ∀ s, 0 ≤ s → s < slots → 0 ≤ ln s ∧ 0 ≤ st s ∧ st s + ln s ≤ 640) (hF : 0 ≤ F) (hC : 0 ≤ C) (hFC : F + C ≤ 640) (hT : pf (fun i => ln i + (if i = x then C else 0)) slots ≤ 640) :
    ∃ st2 ln2 spare2, s_X6_layOut slots sw st ln al area spl spare x F C = some (!sw, st2, ln2, pf (fun i => ln i + (if i = x then C else 0)) slots, spare2, al, area) ∧
      (∀ s, 0 ≤ s → s < slots → st2 s = pf (fun i => ln i + (if i = x then C else 0)) s ∧ ln2 s = ln s + (if s = x then C else 0)) ∧
      (∀ s j, 0 ≤ s → s < slots → 0 ≤ j → j < ln s → spare2 (st2 s + j) = area (st s + j)) ∧ (∀ j, 0 ≤ j → j < C → spare2 (st2 x + ln x + j) = area (F + j)) := by
  have hn : ∀ s, 0 ≤ s → s < slots → 0 ≤ (fun i => ln i + (if i = x then C else 0)) s := fun s a b => by
    have := hst s a b
    show 0 ≤ ln s + (if s = x then C else 0)
    split <;> omega
  obtain ⟨w, b1, b2⟩ := loopJ (fun fu (w : (Int → Int) × (Int → Int) × Int × (Int → Int)) l => s_X6_layOut_10 fu slots w.1 w.2.1 area w.2.2.1 w.2.2.2 x F C l) (fun w => w) 0 slots hs (st, ln, 0, spare) (fun l w => w.2.2.1 = pf (fun i => ln i + (if i = x then C else 0)) l ∧
      (∀ s, 0 ≤ s → s < l → w.1 s = pf (fun i => ln i + (if i = x then C else 0)) s ∧ w.2.1 s = ln s + (if s = x then C else 0)) ∧ (∀ s, l ≤ s → w.1 s = st s ∧ w.2.1 s = ln s) ∧
      (∀ s j, 0 ≤ s → s < l → 0 ≤ j → j < ln s → w.2.2.2 (pf (fun i => ln i + (if i = x then C else 0)) s + j) = area (st s + j)) ∧ (x < l → ∀ j, 0 ≤ j → j < C → w.2.2.2 (pf (fun i => ln i + (if i = x then C else 0)) x + ln x + j) = area (F + j))) ⟨rfl, fun s a b => by omega, fun s a => ⟨rfl, rfl⟩, fun s j a b => by omega, fun a => by omega⟩ (by
    intro fu ⟨st2, ln2, sl2, sp2⟩ l g1 g2 ⟨g3, g4, g5, g6, g7⟩
    have g3 : sl2 = pf (fun i => ln i + (if i = x then C else 0)) l := g3
    have g4 : ∀ s, 0 ≤ s → s < l → st2 s = pf (fun i => ln i + (if i = x then C else 0)) s ∧ ln2 s = ln s + (if s = x then C else 0) := g4
    have g5 : ∀ s, l ≤ s → st2 s = st s ∧ ln2 s = ln s := g5
    have g6 : ∀ s j, 0 ≤ s → s < l → 0 ≤ j → j < ln s → sp2 (pf (fun i => ln i + (if i = x then C else 0)) s + j) = area (st s + j) := g6
    have g7 : x < l → ∀ j, 0 ≤ j → j < C → sp2 (pf (fun i => ln i + (if i = x then C else 0)) x + ln x + j) = area (F + j) := g7
    have q1 := hst l g1 g2
    have q2 := pf_le hn (Int.le_refl 0) g1 (Int.le_of_lt g2)
    have q3 := pf_le hn (show 0 ≤ l + 1 by omega) (show l + 1 ≤ slots by omega) (Int.le_refl _)
    have q4 : pf (fun i => ln i + (if i = x then C else 0)) (l + 1) = pf (fun i => ln i + (if i = x then C else 0)) l + (ln l + (if l = x then C else 0)) := pf_s g1
    rw [pf_0] at q2
    have q5 := (g5 l (Int.le_refl _)).1
    have q6 := (g5 l (Int.le_refl _)).2
    have lo : ∀ s, 0 ≤ s → s < l → pf (fun i => ln i + (if i = x then C else 0)) s + (ln s + (if s = x then C else 0)) ≤ sl2 := fun s a b => by
      have := pf_le hn (show 0 ≤ s + 1 by omega) (show s + 1 ≤ l by omega) (by omega)
      rw [pf_s a] at this
      omega
    by_cases c : l = x
    · rw [if_pos c] at q4
      have r1 := X1_appendRun_e (n0 := 640) (m0 := 640) (l := sl2) (sp := st l) (n := ln l) (f := sp2) (g := area) (by omega) (by omega) (by omega) (by omega) (by omega) (by omega) (by omega)
      have r2 := X1_appendRun_e (n0 := 640) (m0 := 640) (l := sl2 + ln l) (sp := F) (n := C) (f := cpA area sp2 (st l) sl2 (ln l)) (g := area) (by omega) (by omega) (by omega) (by omega) (by omega) (by omega) (by omega)
      refine ⟨(upA st2 l sl2, upA ln2 l (sl2 + ln l + C - sl2), sl2 + ln l + C, cpA area (cpA area sp2 (st l) sl2 (ln l)) F (sl2 + ln l) C), ⟨?_, fun s a b => ?_, fun s a => ?_, fun s j a b d e => ?_, fun a j d e => ?_⟩, ?_⟩
      · show sl2 + ln l + C = _
        omega
      · show upA st2 l sl2 s = _ ∧ upA ln2 l _ s = _
        by_cases k : s = l
        · rw [k, upA_s, upA_s, if_pos c]
          exact ⟨g3, by omega⟩
        · rw [upA_n k, upA_n k]
          exact g4 s a (by omega)
      · show upA st2 l sl2 s = _ ∧ upA ln2 l _ s = _
        rw [upA_n (by omega), upA_n (by omega)]
        exact g5 s (by omega)
      · show cpA area (cpA area sp2 (st l) sl2 (ln l)) F (sl2 + ln l) C (pf (fun i => ln i + (if i = x then C else 0)) s + j) = _
        by_cases k : s = l
        · rw [k] at e ⊢
          rw [cpA_lo (by omega), cpA_in (by omega) (by omega)]
          congr 1; omega
        · have := lo s a (by omega)
          have hz : ln s ≤ ln s + (if s = x then C else 0) := by split <;> omega
          rw [cpA_lo (by omega), cpA_lo (by omega)]
          exact g6 s j a (by omega) d e
      · show cpA area (cpA area sp2 (st l) sl2 (ln l)) F (sl2 + ln l) C (pf (fun i => ln i + (if i = x then C else 0)) x + ln x + j) = _
        have e1 : pf (fun i => ln i + (if i = x then C else 0)) x = pf (fun i => ln i + (if i = x then C else 0)) l := by rw [c]
        have e2 : ln x = ln l := by rw [c]
        rw [cpA_in (by omega) (by omega)]
        congr 1; omega
      · simp only [s_X6_layOut_10_s]
        simp (disch := omega) only [cLt_t, cLt_f, cEq_t, cEq_f, cLtL_t, cLtL_f, cEqL_t, cEqL_f, cR_t, cRL_t, cZ_t, cN_t, cCp_t, rdA_t, ob_e, bd1_e, bd2_e, bd3_e, bd4_e, bd5_e, bd6_e, bd7_e, bd8_e, bd9_e, bd10_e, bd12_e, q5, q6, r1, r2]
    · rw [if_neg c] at q4
      have r1 := X1_appendRun_e (n0 := 640) (m0 := 640) (l := sl2) (sp := st l) (n := ln l) (f := sp2) (g := area) (by omega) (by omega) (by omega) (by omega) (by omega) (by omega) (by omega)
      refine ⟨(upA st2 l sl2, upA ln2 l (sl2 + ln l - sl2), sl2 + ln l, cpA area sp2 (st l) sl2 (ln l)), ⟨?_, fun s a b => ?_, fun s a => ?_, fun s j a b d e => ?_, fun a j d e => ?_⟩, ?_⟩
      · show sl2 + ln l = _
        omega
      · show upA st2 l sl2 s = _ ∧ upA ln2 l _ s = _
        by_cases k : s = l
        · rw [k, upA_s, upA_s, if_neg c]
          exact ⟨g3, by omega⟩
        · rw [upA_n k, upA_n k]
          exact g4 s a (by omega)
      · show upA st2 l sl2 s = _ ∧ upA ln2 l _ s = _
        rw [upA_n (by omega), upA_n (by omega)]
        exact g5 s (by omega)
      · show cpA area sp2 (st l) sl2 (ln l) (pf (fun i => ln i + (if i = x then C else 0)) s + j) = _
        by_cases k : s = l
        · rw [k] at e ⊢
          rw [cpA_in (by omega) (by omega)]
          congr 1; omega
        · have := lo s a (by omega)
          have hz : ln s ≤ ln s + (if s = x then C else 0) := by split <;> omega
          rw [cpA_lo (by omega)]
          exact g6 s j a (by omega) d e
      · show cpA area sp2 (st l) sl2 (ln l) (pf (fun i => ln i + (if i = x then C else 0)) x + ln x + j) = _
        have := lo x hx (by omega)
        rw [if_pos rfl] at this
        rw [cpA_lo (by omega)]
        exact g7 (by omega) j d e
      · simp only [s_X6_layOut_10_s]
        simp (disch := omega) only [cLt_t, cLt_f, cEq_t, cEq_f, cLtL_t, cLtL_f, cEqL_t, cEqL_f, cR_t, cRL_t, cZ_t, cN_t, cCp_t, rdA_t, ob_e, bd1_e, bd2_e, bd3_e, bd4_e, bd5_e, bd6_e, bd7_e, bd8_e, bd9_e, bd10_e, bd12_e, q5, q6, r1]) (by
    intro fu w _
    simp only [s_X6_layOut_10_s]
    simp (disch := omega) only [cLt_t, cLt_f, cEq_t, cEq_f, cLtL_t, cLtL_f, cEqL_t, cEqL_f, cR_t, cRL_t, cZ_t, cN_t, cCp_t, rdA_t, ob_e, bd1_e, bd2_e, bd3_e, bd4_e, bd5_e, bd6_e, bd7_e, bd8_e, bd9_e, bd10_e, bd12_e]) FU (FU_lt (by omega))
  obtain ⟨st2, ln2, sl2, sp2⟩ := w
  have b2 : s_X6_layOut_10 FU slots st ln area 0 spare x F C 0 = some (st2, ln2, sl2, sp2) := b2
  obtain ⟨h1, h2, h3, h4, h5⟩ := b1
  have h1 : sl2 = pf (fun i => ln i + (if i = x then C else 0)) slots := h1
  refine ⟨st2, ln2, sp2, ?_, h2, fun s j a b d e => ?_, fun j d e => ?_⟩
  · unfold s_X6_layOut s_X1_clear
    simp (disch := omega) only [cLt_t, cLt_f, cEq_t, cEq_f, cLtL_t, cLtL_f, cEqL_t, cEqL_f, cR_t, cRL_t, cZ_t, cN_t, cCp_t, rdA_t, ob_e, bd1_e, bd2_e, bd3_e, bd4_e, bd5_e, bd6_e, bd7_e, bd8_e, bd9_e, bd10_e, bd12_e, b2, h1]
  · have e1 : st2 s = pf (fun i => ln i + (if i = x then C else 0)) s := (h2 s a b).1
    rw [e1]; exact h4 s j a b d e
  · have e1 : st2 x = pf (fun i => ln i + (if i = x then C else 0)) x := (h2 x hx hx2).1
    rw [e1]; exact h5 hx2 j d e
/-- the lengths behind a joining of x and y by o -/
def nlj (ln : Int → Int) (x y o : Int) : Int → Int := fun s => if s = x then ln x + (ln y - o) else if s = y then 0 else ln s
theorem join_e {slots al spl x y : Int} {sw : Bool} {st ln ov area spare : Int → Int} (h : CI slots al st ln area) (hx : 0 ≤ x) (hx2 : x < slots) (hy : 0 ≤ y) (hy2 : y < slots) (hxy : x ≠ y) (ho : 0 ≤ ov (x * 40 + y)) (ho2 : ov (x * 40 + y) ≤ ln y) :
    ∃ st2 ln2 area2, s_X6_join slots sw st ln ov al area spl spare x y = some (!sw, st2, ln2, al - ov (x * 40 + y), area2, al, area) ∧ CI slots (al - ov (x * 40 + y)) st2 ln2 area2 ∧
      (∀ s, 0 ≤ s → s < slots → ln2 s = nlj ln x y (ov (x * 40 + y)) s) ∧ (∀ s j, 0 ≤ s → s < slots → s ≠ y → 0 ≤ j → j < ln s → area2 (st2 s + j) = area (st s + j)) ∧ (∀ j, 0 ≤ j → j < ln y - ov (x * 40 + y) → area2 (st2 x + ln x + j) = area (st y + ov (x * 40 + y) + j)) := by
  have hsx := h.seg hx hx2
  have hsy := h.seg hy hy2
  obtain ⟨c1, c2, c3, c4, c5, c6⟩ := h
  have h : CI slots al st ln area := ⟨c1, c2, c3, c4, c5, c6⟩
  have ex : upA ln y 0 x = ln x := upA_n hxy
  have eT : pf (fun i => upA ln y 0 i + (if i = x then ln y - ov (x * 40 + y) else 0)) slots = al - ov (x * 40 + y) := by
    rw [pf_at hx c1, if_pos hx2]
    have e2 : pf (upA ln y 0) slots = pf (fun i => ln i + (if i = y then - ln y else 0)) slots := pf_cg (fun i a b => by
      by_cases c : i = y
      · rw [c, upA_s, if_pos rfl]; omega
      · rw [upA_n c, if_neg c]; omega)
    rw [e2, pf_at hy c1, if_pos hy2]
    omega
  obtain ⟨st2, ln2, sp2, a1, a2, a3, a4⟩ := layOut_e (slots := slots) (x := x) (F := st y + ov (x * 40 + y)) (C := ln y - ov (x * 40 + y)) (spl := spl) (sw := sw) (al := al) (st := st) (ln := upA ln y 0) (area := area) (spare := spare) c1 c2 hx hx2 (fun s a b => by
      have q := h.seg a b
      by_cases c : s = y
      · rw [c, upA_s]; rw [c] at q; omega
      · rw [upA_n c]; omega) (by omega) (by omega) (by omega) (by rw [eT]; omega)
  rw [eT] at a1
  have eL : ∀ s, 0 ≤ s → s < slots → ln2 s = nlj ln x y (ov (x * 40 + y)) s := fun s a b => by
    rw [(a2 s a b).2]
    unfold nlj
    by_cases c : s = x
    · rw [if_pos c, if_pos c, c, ex]
    · rw [if_neg c, if_neg c]
      by_cases d : s = y
      · rw [if_pos d, d, upA_s]; omega
      · rw [if_neg d, upA_n d]; omega
  have eP : ∀ s, 0 ≤ s → s ≤ slots → pf (fun i => upA ln y 0 i + (if i = x then ln y - ov (x * 40 + y) else 0)) s = pf ln2 s := fun s a b => pf_cg (fun i c d => ((a2 i c (by omega)).2).symm)
  have hC : CI slots (al - ov (x * 40 + y)) st2 ln2 sp2 := by
    refine ⟨c1, c2, fun s a b => ⟨?_, ?_⟩, ?_, by omega, ?_⟩
    · rw [eL s a b]
      have := h.seg a b
      unfold nlj
      split
      · omega
      · split <;> omega
    · rw [(a2 s a b).1, eP s a (by omega)]
    · rw [← eP slots c1 (Int.le_refl _), eT]
    · -- every place of the new area is a place of a slot
      have key : ∀ (n : Nat), (n : Int) ≤ slots → ∀ j, 0 ≤ j → j < pf ln2 n → 0 ≤ sp2 j ∧ sp2 j < 256 := by
        intro n
        induction n with
        | zero => intro _ j a b; have b : j < 0 := b; omega
        | succ n ih =>
          intro hn j a b
          rw [show ((n + 1 : Nat) : Int) = (n : Int) + 1 by omega, pf_s (by omega)] at b
          by_cases c : j < pf ln2 n
          · exact ih (by omega) j a c
          · have e1 := (a2 (n : Int) (by omega) (by omega)).1
            rw [eP (n : Int) (by omega) (by omega)] at e1
            have e2 := eL (n : Int) (by omega) (by omega)
            have sn := h.seg (show 0 ≤ (n : Int) by omega) (show (n : Int) < slots by omega)
            unfold nlj at e2
            by_cases k : (n : Int) = x
            · rw [if_pos k] at e2
              have kk : upA ln y 0 (n : Int) = ln x := by rw [k, ex]
              have kl : ln (n : Int) = ln x := by rw [k]
              have ks : st2 x = st2 (n : Int) := by rw [k]
              by_cases k2 : j < pf ln2 n + ln x
              · have := a3 (n : Int) (j - pf ln2 n) (by omega) (by omega) (by omega) (by rw [kk]; omega)
                rw [show st2 (n : Int) + (j - pf ln2 n) = j by omega] at this
                rw [this]; exact c6 _ (by omega) (by omega)
              · have := a4 (j - pf ln2 n - ln x) (by omega) (by omega)
                rw [ex, show st2 x + ln x + (j - pf ln2 n - ln x) = j by omega] at this
                rw [this]; exact c6 _ (by omega) (by omega)
            · rw [if_neg k] at e2
              by_cases k3 : (n : Int) = y
              · rw [if_pos k3] at e2; omega
              · rw [if_neg k3] at e2
                have := a3 (n : Int) (j - pf ln2 n) (by omega) (by omega) (by omega) (by rw [upA_n k3]; omega)
                rw [show st2 (n : Int) + (j - pf ln2 n) = j by omega] at this
                rw [this]; exact c6 _ (by omega) (by omega)
      intro j a b
      refine key slots.toNat (by omega) j a ?_
      rw [show ((slots.toNat : Nat) : Int) = slots by omega, ← eP slots c1 (Int.le_refl _), eT]
      exact b
  refine ⟨st2, ln2, sp2, ?_, hC, eL, fun s j a b c d e => a3 s j a b d (by rw [upA_n c]; exact e), fun j d e => ?_⟩
  · unfold s_X6_join
    simp (disch := omega) only [cLt_t, cLt_f, cEq_t, cEq_f, cLtL_t, cLtL_f, cEqL_t, cEqL_f, cR_t, cRL_t, cZ_t, cN_t, cCp_t, rdA_t, ob_e, bd1_e, bd2_e, bd3_e, bd4_e, bd5_e, bd6_e, bd7_e, bd8_e, bd9_e, bd10_e, bd12_e, a1]
  · have := a4 j d e
    rw [ex] at this
    exact this
