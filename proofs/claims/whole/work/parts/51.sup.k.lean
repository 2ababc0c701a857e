/-! ===== the superstring: its three calls ===== -/
theorem op_superstringLength {on gv th slots built laid al spl els ws : Int} {sw : Bool} {len bytes wt live st ln ov area spare el lg hd tl nx sk ls whole ed : Int → Int} (hK : KW gv len bytes wt live) (hJ : DSJ on gv len bytes live) (o1 : 0 ≤ on) (o2 : on ≤ 1) (hc : cntL live gv.toNat ≤ 40) (hS : SI on gv len bytes live built laid al area ws whole) :
    ∃ r slots2 built2 sw2 st2 ln2 ov2 al2 area2 spl2 spare2 els2 ws2 laid2 el2 lg2 hd2 tl2 nx2 sk2 ls2 whole2 ed2, s_X7_superstringLength on gv bytes len live slots built sw st ln ov al area spl spare = some (r, slots2, built2, sw2, st2, ln2, ov2, al2, area2, spl2, spare2) ∧ s_X8_superstringLength th gv on els ws laid len bytes live el lg hd tl nx sk ls whole ed = some (r, 0, els2, ws2, laid2, el2, lg2, hd2, tl2, nx2, sk2, ls2, whole2, ed2) ∧ SI on gv len bytes live built2 laid2 al2 area2 ws2 whole2 := by
  obtain ⟨slots2, sw2, st2, ln2, ov2, al2, area2, spl2, spare2, els2, ws2, el2, lg2, hd2, tl2, nx2, sk2, ls2, whole2, ed2, a1, a2, a3⟩ := build_e (slots := slots) (spl := spl) (els := els) (sw := sw) (st := st) (ln := ln) (ov := ov) (spare := spare) (el := el) (lg := lg) (hd := hd) (tl := tl) (nx := nx) (sk := sk) (ls := ls) (ed := ed) hK hJ o1 o2 hc hS
  have e := a3.1
  refine ⟨al2, slots2, 1, sw2, st2, ln2, ov2, al2, area2, spl2, spare2, els2, ws2, 1, el2, lg2, hd2, tl2, nx2, sk2, ls2, whole2, ed2, ?_, ?_, Or.inr ⟨rfl, rfl, a3⟩⟩
  · unfold s_X7_superstringLength
    simp (disch := omega) only [cLt_t, cLt_f, cEq_t, cEq_f, cLtL_t, cLtL_f, cEqL_t, cEqL_f, cR_t, cRL_t, cZ_t, cN_t, cCp_t, rdA_t, ob_e, bd1_e, bd2_e, bd3_e, bd4_e, bd5_e, bd6_e, bd7_e, bd8_e, bd9_e, bd10_e, bd12_e, a1]
  · unfold s_X8_superstringLength
    rw [← e]
    simp (disch := omega) only [cLt_t, cLt_f, cEq_t, cEq_f, cLtL_t, cLtL_f, cEqL_t, cEqL_f, cR_t, cRL_t, cZ_t, cN_t, cCp_t, rdA_t, ob_e, bd1_e, bd2_e, bd3_e, bd4_e, bd5_e, bd6_e, bd7_e, bd8_e, bd9_e, bd10_e, bd12_e, a2]
theorem op_superstringByte {on gv th slots built laid al spl els ws i : Int} {sw : Bool} {len bytes wt live st ln ov area spare el lg hd tl nx sk ls whole ed : Int → Int} (hK : KW gv len bytes wt live) (hJ : DSJ on gv len bytes live) (o1 : 0 ≤ on) (o2 : on ≤ 1) (hc : cntL live gv.toNat ≤ 40) (hS : SI on gv len bytes live built laid al area ws whole) (hi1 : -2147483648 ≤ i) (hi2 : i < 2147483648) :
    ∃ r slots2 built2 sw2 st2 ln2 ov2 al2 area2 spl2 spare2 els2 ws2 laid2 el2 lg2 hd2 tl2 nx2 sk2 ls2 whole2 ed2, s_X7_superstringByte on gv bytes len live slots built sw st ln ov al area spl spare i = some (r, slots2, built2, sw2, st2, ln2, ov2, al2, area2, spl2, spare2) ∧ s_X8_superstringByte th gv on els ws laid len bytes live el lg hd tl nx sk ls whole ed i = some (r, 0, els2, ws2, laid2, el2, lg2, hd2, tl2, nx2, sk2, ls2, whole2, ed2) ∧ SI on gv len bytes live built2 laid2 al2 area2 ws2 whole2 := by
  by_cases c : i < 0
  · refine ⟨-3, slots, built, sw, st, ln, ov, al, area, spl, spare, els, ws, laid, el, lg, hd, tl, nx, sk, ls, whole, ed, ?_, ?_, hS⟩
    · unfold s_X7_superstringByte
      simp (disch := omega) only [cLt_t, cLt_f, cEq_t, cEq_f, cLtL_t, cLtL_f, cEqL_t, cEqL_f, cR_t, cRL_t, cZ_t, cN_t, cCp_t, rdA_t, ob_e, bd1_e, bd2_e, bd3_e, bd4_e, bd5_e, bd6_e, bd7_e, bd8_e, bd9_e, bd10_e, bd12_e]
    · unfold s_X8_superstringByte
      simp (disch := omega) only [cLt_t, cLt_f, cEq_t, cEq_f, cLtL_t, cLtL_f, cEqL_t, cEqL_f, cR_t, cRL_t, cZ_t, cN_t, cCp_t, rdA_t, ob_e, bd1_e, bd2_e, bd3_e, bd4_e, bd5_e, bd6_e, bd7_e, bd8_e, bd9_e, bd10_e, bd12_e]
  · obtain ⟨slots2, sw2, st2, ln2, ov2, al2, area2, spl2, spare2, els2, ws2, el2, lg2, hd2, tl2, nx2, sk2, ls2, whole2, ed2, a1, a2, a3⟩ := build_e (slots := slots) (spl := spl) (els := els) (sw := sw) (st := st) (ln := ln) (ov := ov) (spare := spare) (el := el) (lg := lg) (hd := hd) (tl := tl) (nx := nx) (sk := sk) (ls := ls) (ed := ed) hK hJ o1 o2 hc hS
    have e := a3.1
    have e0 := a3.2.1
    have e1 := a3.2.2.1
    have at1 := X1_at_e (m := 640) (l := al2) (i := i) (b := area2) (by omega) (by omega) e0 hi1 hi2
    by_cases d : i < al2
    · rw [if_pos ⟨by omega, d⟩] at at1
      have w := (a3.2.2.2.1 i (by omega) d).1
      refine ⟨area2 i, slots2, 1, sw2, st2, ln2, ov2, al2, area2, spl2, spare2, els2, ws2, 1, el2, lg2, hd2, tl2, nx2, sk2, ls2, whole2, ed2, ?_, ?_, Or.inr ⟨rfl, rfl, a3⟩⟩
      · unfold s_X7_superstringByte
        simp (disch := omega) only [cLt_t, cLt_f, cEq_t, cEq_f, cLtL_t, cLtL_f, cEqL_t, cEqL_f, cR_t, cRL_t, cZ_t, cN_t, cCp_t, rdA_t, ob_e, bd1_e, bd2_e, bd3_e, bd4_e, bd5_e, bd6_e, bd7_e, bd8_e, bd9_e, bd10_e, bd12_e, a1, at1]
      · unfold s_X8_superstringByte
        rw [w]
        simp (disch := omega) only [cLt_t, cLt_f, cEq_t, cEq_f, cLtL_t, cLtL_f, cEqL_t, cEqL_f, cR_t, cRL_t, cZ_t, cN_t, cCp_t, rdA_t, ob_e, bd1_e, bd2_e, bd3_e, bd4_e, bd5_e, bd6_e, bd7_e, bd8_e, bd9_e, bd10_e, bd12_e, a2]
    · rw [if_neg (by omega)] at at1
      refine ⟨-1, slots2, 1, sw2, st2, ln2, ov2, al2, area2, spl2, spare2, els2, ws2, 1, el2, lg2, hd2, tl2, nx2, sk2, ls2, whole2, ed2, ?_, ?_, Or.inr ⟨rfl, rfl, a3⟩⟩
      · unfold s_X7_superstringByte
        simp (disch := omega) only [cLt_t, cLt_f, cEq_t, cEq_f, cLtL_t, cLtL_f, cEqL_t, cEqL_f, cR_t, cRL_t, cZ_t, cN_t, cCp_t, rdA_t, ob_e, bd1_e, bd2_e, bd3_e, bd4_e, bd5_e, bd6_e, bd7_e, bd8_e, bd9_e, bd10_e, bd12_e, a1, at1]
      · unfold s_X8_superstringByte
        simp (disch := omega) only [cLt_t, cLt_f, cEq_t, cEq_f, cLtL_t, cLtL_f, cEqL_t, cEqL_f, cR_t, cRL_t, cZ_t, cN_t, cCp_t, rdA_t, ob_e, bd1_e, bd2_e, bd3_e, bd4_e, bd5_e, bd6_e, bd7_e, bd8_e, bd9_e, bd10_e, bd12_e, a2]
def PA (on : Int) (len bytes : Int → Int) (al : Int) (area : Int → Int) (k d : Int) : Prop := 0 ≤ d ∧ d + len k ≤ al ∧ RE on bytes (16 * k) area d (len k)
def FA (on : Int) (len bytes : Int → Int) (al : Int) (area : Int → Int) (k d : Int) : Prop := PA on len bytes al area k d ∧ ∀ q, 0 ≤ q → q < d → ¬ PA on len bytes al area k q
theorem FA.uniq {on al k d e : Int} {len bytes area : Int → Int} (h : FA on len bytes al area k d) (g : FA on len bytes al area k e) : d = e := by
  rcases Int.lt_trichotomy d e with q | q | q
  · exact absurd h.1 (g.2 d h.1.1 q)
  · exact q
  · exact absurd g.1 (h.2 e g.1.1 q)
theorem isInWhole_e {on gv k p : Int} {len bytes wt live whole : Int → Int} (hK : KW gv len bytes wt live) (o1 : 0 ≤ on) (o2 : on ≤ 1) (hk : 0 ≤ k) (hk2 : k < gv) (hp : 0 ≤ p) (hp2 : p + len k ≤ 640) (hR : RB whole p (len k)) : ∃ r, s_X8_isInWhole on len bytes whole k p = some r ∧ BB r (RE on bytes (16 * k) whole p (len k)) := by
  have hg := hK.2.1
  have kk := hK.2.2 k hk hk2
  have rb := hK.rb hk hk2 (n := len k) (Int.le_refl _)
  unfold s_X8_isInWhole
  refine loopR (fun fu i => s_X8_isInWhole_2 fu on len bytes whole k p i) (fun i => (len k - i).toNat) (fun i => 0 ≤ i ∧ i ≤ len k ∧ RE on bytes (16 * k) whole p i) (fun r => BB r (RE on bytes (16 * k) whole p (len k))) ?_ FU 0 ⟨Int.le_refl _, by omega, fun j a b => by omega⟩ (FU_lt (by omega))
  intro fu i ⟨g1, g2, g3⟩
  simp only [s_X8_isInWhole_2_s]
  by_cases c : i < len k
  · have u1 := rb i g1 c
    have u2 := hR i g1 c
    have b1 := X8_byteOf_e (f := bytes) (k := k) (i := i) (by omega) (by omega)
    have like := X8_like_e (on := on) o1 o2 u1.1 u1.2 u2.1 u2.2
    by_cases e : fo on (bytes (16 * k + i)) = fo on (whole (p + i))
    · right
      rw [if_pos e] at like
      refine ⟨i + 1, ⟨by omega, by omega, fun j u w => ?_⟩, by omega, by simp (disch := omega) only [cLt_t, cLt_f, cEq_t, cEq_f, cLtL_t, cLtL_f, cEqL_t, cEqL_f, cR_t, cRL_t, cZ_t, cN_t, cCp_t, rdA_t, ob_e, bd1_e, bd2_e, bd3_e, bd4_e, bd5_e, bd6_e, bd7_e, bd8_e, bd9_e, bd10_e, bd12_e, b1, like]⟩
      by_cases v : j = i
      · rw [v]; exact e
      · exact g3 j u (by omega)
    · left
      rw [if_neg e] at like
      exact ⟨0, by simp (disch := omega) only [cLt_t, cLt_f, cEq_t, cEq_f, cLtL_t, cLtL_f, cEqL_t, cEqL_f, cR_t, cRL_t, cZ_t, cN_t, cCp_t, rdA_t, ob_e, bd1_e, bd2_e, bd3_e, bd4_e, bd5_e, bd6_e, bd7_e, bd8_e, bd9_e, bd10_e, bd12_e, b1, like], Or.inr ⟨rfl, fun q => e (q i g1 c)⟩⟩
  · left
    exact ⟨1, by simp (disch := omega) only [cLt_t, cLt_f, cEq_t, cEq_f, cLtL_t, cLtL_f, cEqL_t, cEqL_f, cR_t, cRL_t, cZ_t, cN_t, cCp_t, rdA_t, ob_e, bd1_e, bd2_e, bd3_e, bd4_e, bd5_e, bd6_e, bd7_e, bd8_e, bd9_e, bd10_e, bd12_e], Or.inl ⟨rfl, g3.le (by omega)⟩⟩
theorem op_superstringStart {on gv th slots built laid al spl els ws k : Int} {sw : Bool} {len bytes wt live st ln ov area spare el lg hd tl nx sk ls whole ed : Int → Int} (hK : KW gv len bytes wt live) (hJ : DSJ on gv len bytes live) (o1 : 0 ≤ on) (o2 : on ≤ 1) (hc : cntL live gv.toNat ≤ 40) (hS : SI on gv len bytes live built laid al area ws whole) (hi1 : -2147483648 ≤ k) (hi2 : k < 2147483648) :
    ∃ r slots2 built2 sw2 st2 ln2 ov2 al2 area2 spl2 spare2 els2 ws2 laid2 el2 lg2 hd2 tl2 nx2 sk2 ls2 whole2 ed2, s_X7_superstringStart on gv bytes len live slots built sw st ln ov al area spl spare k = some (r, slots2, built2, sw2, st2, ln2, ov2, al2, area2, spl2, spare2) ∧ s_X8_superstringStart th gv on els ws laid len bytes live el lg hd tl nx sk ls whole ed k = some (r, 0, els2, ws2, laid2, el2, lg2, hd2, tl2, nx2, sk2, ls2, whole2, ed2) ∧ SI on gv len bytes live built2 laid2 al2 area2 ws2 whole2 := by
  have hg := hK.2.1
  have hg0 := hK.1
  have l1 := X3_isAlive_e (gv := gv) (k := k) (live := live) hg0 hg hi1 hi2 (fun a b => (hK.2.2 k a b).2.2.2.2.1)
  have l2 := X8_isLiveOne_e (gv := gv) (k := k) (live := live) hg0 hg hi1 hi2 (fun a b => (hK.2.2 k a b).2.2.2.2.1)
  by_cases c : 0 ≤ k ∧ k < gv ∧ live k = 1
  · rw [if_pos c] at l1 l2
    obtain ⟨slots2, sw2, st2, ln2, ov2, al2, area2, spl2, spare2, els2, ws2, el2, lg2, hd2, tl2, nx2, sk2, ls2, whole2, ed2, a1, a2, a3⟩ := build_e (slots := slots) (spl := spl) (els := els) (sw := sw) (st := st) (ln := ln) (ov := ov) (spare := spare) (el := el) (lg := lg) (hd := hd) (tl := tl) (nx := nx) (sk := sk) (ls := ls) (ed := ed) hK hJ o1 o2 hc hS
    obtain ⟨e, e0, e1, e2, e3⟩ := a3
    have a3 : SUP on gv len bytes live al2 area2 ws2 whole2 := ⟨e, e0, e1, e2, e3⟩
    obtain ⟨d, d1, d2, d3⟩ := e3 k c
    have kk := hK.2.2 k c.1 c.2.1
    have rA : RB area2 0 al2 := fun j a b => by
      have := e2 j a b
      rw [show (0 : Int) + j = j by omega]; omega
    have A := loopR (fun fu p => s_X7_superstringStart_27 fu on gv bytes len slots2 1 sw2 st2 ln2 ov2 al2 area2 spl2 spare2 k p) (fun p => (al2 - p).toNat) (fun p => 0 ≤ p ∧ p ≤ d ∧ ∀ q, 0 ≤ q → q < p → ¬ PA on len bytes al2 area2 k q) (fun r => ∃ v, r = (v, slots2, 1, sw2, st2, ln2, ov2, al2, area2, spl2, spare2) ∧ FA on len bytes al2 area2 k v) (by
      intro fu p ⟨g1, g2, g3⟩
      simp only [s_X7_superstringStart_27_s]
      obtain ⟨r, r1, r2⟩ := X3_standsAt_e (m := 640) (tl := al2) (k := k) (p := p) (tb := area2) hK o1 o2 (by omega) c.1 c.2.1 e0 (by omega) rA (by omega) (by omega)
      rcases r2 with ⟨v1, v2⟩ | ⟨v1, v2⟩
      · left
        exact ⟨(p, slots2, 1, sw2, st2, ln2, ov2, al2, area2, spl2, spare2), by simp (disch := omega) only [cLt_t, cLt_f, cEq_t, cEq_f, cLtL_t, cLtL_f, cEqL_t, cEqL_f, cR_t, cRL_t, cZ_t, cN_t, cCp_t, rdA_t, ob_e, bd1_e, bd2_e, bd3_e, bd4_e, bd5_e, bd6_e, bd7_e, bd8_e, bd9_e, bd10_e, bd12_e, r1], p, rfl, v2, g3⟩
      · right
        have ne : p ≠ d := fun w => v2 (by rw [w]; exact ⟨d1, d2, d3⟩)
        refine ⟨p + 1, ⟨by omega, by omega, fun q u w => ?_⟩, by omega, by simp (disch := omega) only [cLt_t, cLt_f, cEq_t, cEq_f, cLtL_t, cLtL_f, cEqL_t, cEqL_f, cR_t, cRL_t, cZ_t, cN_t, cCp_t, rdA_t, ob_e, bd1_e, bd2_e, bd3_e, bd4_e, bd5_e, bd6_e, bd7_e, bd8_e, bd9_e, bd10_e, bd12_e, r1]⟩
        by_cases y : q = p
        · rw [y]; exact v2
        · exact g3 q u (by omega)) FU 0 ⟨Int.le_refl _, d1, fun q a b => by omega⟩ (FU_lt (by omega))
    obtain ⟨-, b1, v, rfl, b2⟩ := A
    have B := loopR (fun fu p => s_X8_superstringStart_22 fu on len bytes whole2 k p) (fun p => (al2 - p).toNat) (fun p => 0 ≤ p ∧ p ≤ d ∧ ∀ q, 0 ≤ q → q < p → ¬ PA on len bytes al2 area2 k q) (fun r => FA on len bytes al2 area2 k r) (by
      intro fu p ⟨g1, g2, g3⟩
      simp only [s_X8_superstringStart_22_s]
      obtain ⟨r, r1, r2⟩ := isInWhole_e (k := k) (p := p) (whole := whole2) hK o1 o2 c.1 c.2.1 g1 (by omega) (fun j a b => by
        have := e2 (p + j) (by omega) (by omega)
        rw [← this.1]; omega)
      have iff : RE on bytes (16 * k) whole2 p (len k) ↔ PA on len bytes al2 area2 k p := by
        constructor
        · intro h
          refine ⟨g1, by omega, fun j a b => ?_⟩
          rw [h j a b, (e2 (p + j) (by omega) (by omega)).1]
        · intro h j a b
          rw [h.2.2 j a b, (e2 (p + j) (by omega) (by omega)).1]
      rcases r2 with ⟨v1, v2⟩ | ⟨v1, v2⟩
      · left
        exact ⟨p, by simp (disch := omega) only [cLt_t, cLt_f, cEq_t, cEq_f, cLtL_t, cLtL_f, cEqL_t, cEqL_f, cR_t, cRL_t, cZ_t, cN_t, cCp_t, rdA_t, ob_e, bd1_e, bd2_e, bd3_e, bd4_e, bd5_e, bd6_e, bd7_e, bd8_e, bd9_e, bd10_e, bd12_e, r1], iff.mp v2, g3⟩
      · right
        have ne : p ≠ d := fun w => v2 (iff.mpr (by rw [w]; exact ⟨d1, d2, d3⟩))
        refine ⟨p + 1, ⟨by omega, by omega, fun q u w => ?_⟩, by omega, by simp (disch := omega) only [cLt_t, cLt_f, cEq_t, cEq_f, cLtL_t, cLtL_f, cEqL_t, cEqL_f, cR_t, cRL_t, cZ_t, cN_t, cCp_t, rdA_t, ob_e, bd1_e, bd2_e, bd3_e, bd4_e, bd5_e, bd6_e, bd7_e, bd8_e, bd9_e, bd10_e, bd12_e, r1]⟩
        by_cases y : q = p
        · rw [y]; exact fun z => v2 (iff.mpr z)
        · exact g3 q u (by omega)) FU 0 ⟨Int.le_refl _, d1, fun q a b => by omega⟩ (FU_lt (by omega))
    obtain ⟨v2, b3, b4⟩ := B
    have ev2 := FA.uniq b4 b2
    subst ev2
    have b1 : s_X7_superstringStart_27 FU on gv bytes len slots2 1 sw2 st2 ln2 ov2 al2 area2 spl2 spare2 k 0 = some (v2, slots2, 1, sw2, st2, ln2, ov2, al2, area2, spl2, spare2) := b1
    have b3 : s_X8_superstringStart_22 FU on len bytes whole2 k 0 = some v2 := b3
    refine ⟨v2, slots2, 1, sw2, st2, ln2, ov2, al2, area2, spl2, spare2, els2, ws2, 1, el2, lg2, hd2, tl2, nx2, sk2, ls2, whole2, ed2, ?_, ?_, Or.inr ⟨rfl, rfl, a3⟩⟩
    · unfold s_X7_superstringStart
      simp (disch := omega) only [cLt_t, cLt_f, cEq_t, cEq_f, cLtL_t, cLtL_f, cEqL_t, cEqL_f, cR_t, cRL_t, cZ_t, cN_t, cCp_t, rdA_t, ob_e, bd1_e, bd2_e, bd3_e, bd4_e, bd5_e, bd6_e, bd7_e, bd8_e, bd9_e, bd10_e, bd12_e, l1, a1, b1]
    · unfold s_X8_superstringStart
      simp (disch := omega) only [cLt_t, cLt_f, cEq_t, cEq_f, cLtL_t, cLtL_f, cEqL_t, cEqL_f, cR_t, cRL_t, cZ_t, cN_t, cCp_t, rdA_t, ob_e, bd1_e, bd2_e, bd3_e, bd4_e, bd5_e, bd6_e, bd7_e, bd8_e, bd9_e, bd10_e, bd12_e, l2, a2, b3]
  · rw [if_neg c] at l1 l2
    refine ⟨-2, slots, built, sw, st, ln, ov, al, area, spl, spare, els, ws, laid, el, lg, hd, tl, nx, sk, ls, whole, ed, ?_, ?_, hS⟩
    · unfold s_X7_superstringStart
      simp (disch := omega) only [cLt_t, cLt_f, cEq_t, cEq_f, cLtL_t, cLtL_f, cEqL_t, cEqL_f, cR_t, cRL_t, cZ_t, cN_t, cCp_t, rdA_t, ob_e, bd1_e, bd2_e, bd3_e, bd4_e, bd5_e, bd6_e, bd7_e, bd8_e, bd9_e, bd10_e, bd12_e, l1]
    · unfold s_X8_superstringStart
      simp (disch := omega) only [cLt_t, cLt_f, cEq_t, cEq_f, cLtL_t, cLtL_f, cEqL_t, cEqL_f, cR_t, cRL_t, cZ_t, cN_t, cCp_t, rdA_t, ob_e, bd1_e, bd2_e, bd3_e, bd4_e, bd5_e, bd6_e, bd7_e, bd8_e, bd9_e, bd10_e, bd12_e, l2]
