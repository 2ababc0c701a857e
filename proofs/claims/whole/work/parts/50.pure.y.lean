/-! ===== the calls about the best cover ===== -/
theorem op_coveredBytes {gv on sl sz tm th : Int} {len bytes wt live str words starts kat cA wA nA tA bf pos num tak : Int → Int} (hK : KW gv len bytes wt live) (hd : DSJ on gv len bytes live) (o1 : 0 ≤ on) (o2 : on ≤ 1) (hs1 : 0 ≤ sl) (hs2 : sl ≤ 600) (hS : RB str 0 600) (hT : TBI on gv len bytes live str sl words) : ∃ r x1 x2 x3 x4 y1 y2 y3 y4 y5 y6, s_X7_coveredBytes gv len wt sl words sz pos num bf = some (r, x1, x2, x3, x4) ∧ s_X8_coveredBytes th gv on sl len bytes wt live str starts kat cA wA nA tA = some (r, 0, y1, y2, y3, y4, y5, y6) := by
  obtain ⟨s2, k2, c, w, n, t, size2, pos2, num2, tak2, bf2, h1, h2, h3, h4, h7, h8, h9, h10⟩ := cover_both (sz := sz) (tm := tm) (starts := starts) (kat := kat) (cA := cA) (wA := wA) (nA := nA) (tA := tA) (bf := bf) (pos := pos) (num := num) (tak := tak) hK hd o1 o2 hs1 hs2 hS hT
  have hg := hK.2.1
  have q1 := h4.1
  have q2 := h4.2.1
  obtain ⟨s, b1, b2⟩ := loopJ (fun fu (s : Int) i => s_X7_coveredBytes_8 fu gv len size2 num2 s i) (fun s => s) 0 size2 q1 0 (fun i s => s = sm (fun i => len (num2 (i : Int))) (i - 0).toNat) rfl (by
    intro fu s i g1 g2 g3
    have z1 := kwAt_e h4 (i := i) g1 (by omega)
    rw [if_pos g2] at z1
    have z2 := h7 i g1 g2
    have z3 := X3_lengthOf_e (gv := gv) (k := num2 i) (len := len) z2.1 z2.2 hg
    refine ⟨s + len (num2 i), ?_, ?_⟩
    · show s + _ = _
      rw [sm_nx g1, show (((i - 0).toNat : Nat) : Int) = i by omega, g3]
    · simp only [s_X7_coveredBytes_8_s]
      simp (disch := omega) only [cLt_t, cLt_f, cEq_t, cEq_f, cLtL_t, cLtL_f, cEqL_t, cEqL_f, cR_t, cRL_t, cZ_t, cN_t, cCp_t, rdA_t, ob_e, bd1_e, bd2_e, bd3_e, bd4_e, bd5_e, bd6_e, bd7_e, bd8_e, bd9_e, bd10_e, bd12_e, z1, z3]) (by
    intro fu s _
    simp only [s_X7_coveredBytes_8_s]
    simp (disch := omega) only [cLt_t, cLt_f, cEq_t, cEq_f, cLtL_t, cLtL_f, cEqL_t, cEqL_f, cR_t, cRL_t, cZ_t, cN_t, cCp_t, rdA_t, ob_e, bd1_e, bd2_e, bd3_e, bd4_e, bd5_e, bd6_e, bd7_e, bd8_e, bd9_e, bd10_e, bd12_e]) FU (FU_lt (by omega))
  have b2 : s_X7_coveredBytes_8 FU gv len size2 num2 0 0 = some s := b2
  have e : s = c 0 := by rw [b1, h8, show size2 - 0 = size2 by omega]
  refine ⟨s, size2, pos2, num2, bf2, s2, k2, c, w, n, t, ?_, ?_⟩
  · unfold s_X7_coveredBytes
    simp (disch := omega) only [cLt_t, cLt_f, cEq_t, cEq_f, cLtL_t, cLtL_f, cEqL_t, cEqL_f, cR_t, cRL_t, cZ_t, cN_t, cCp_t, rdA_t, ob_e, bd1_e, bd2_e, bd3_e, bd4_e, bd5_e, bd6_e, bd7_e, bd8_e, bd9_e, bd10_e, bd12_e, h2, b2]
  · unfold s_X8_coveredBytes
    simp (disch := omega) only [cLt_t, cLt_f, cEq_t, cEq_f, cLtL_t, cLtL_f, cEqL_t, cEqL_f, cR_t, cRL_t, cZ_t, cN_t, cCp_t, rdA_t, ob_e, bd1_e, bd2_e, bd3_e, bd4_e, bd5_e, bd6_e, bd7_e, bd8_e, bd9_e, bd10_e, bd12_e, h1, e]
theorem op_coverWeight {gv on sl sz tm th : Int} {len bytes wt live str words starts kat cA wA nA tA bf pos num tak : Int → Int} (hK : KW gv len bytes wt live) (hd : DSJ on gv len bytes live) (o1 : 0 ≤ on) (o2 : on ≤ 1) (hs1 : 0 ≤ sl) (hs2 : sl ≤ 600) (hS : RB str 0 600) (hT : TBI on gv len bytes live str sl words) : ∃ r x1 x2 x3 x4 y1 y2 y3 y4 y5 y6, s_X7_coverWeight gv len wt sl words sz pos num bf = some (r, x1, x2, x3, x4) ∧ s_X8_coverWeight th gv on sl len bytes wt live str starts kat cA wA nA tA = some (r, 0, y1, y2, y3, y4, y5, y6) := by
  obtain ⟨s2, k2, c, w, n, t, size2, pos2, num2, tak2, bf2, h1, h2, h3, h4, h7, h8, h9, h10⟩ := cover_both (sz := sz) (tm := tm) (starts := starts) (kat := kat) (cA := cA) (wA := wA) (nA := nA) (tA := tA) (bf := bf) (pos := pos) (num := num) (tak := tak) hK hd o1 o2 hs1 hs2 hS hT
  have hg := hK.2.1
  have q1 := h4.1
  have q2 := h4.2.1
  obtain ⟨s, b1, b2⟩ := loopJ (fun fu (s : Int) i => s_X7_coverWeight_8 fu gv wt size2 num2 s i) (fun s => s) 0 size2 q1 0 (fun i s => s = sm (fun i => wt (num2 (i : Int))) (i - 0).toNat) rfl (by
    intro fu s i g1 g2 g3
    have z1 := kwAt_e h4 (i := i) g1 (by omega)
    rw [if_pos g2] at z1
    have z2 := h7 i g1 g2
    have z3 := X3_weightOf_e (gv := gv) (k := num2 i) (wt := wt) z2.1 z2.2 hg
    refine ⟨s + wt (num2 i), ?_, ?_⟩
    · show s + _ = _
      rw [sm_nx g1, show (((i - 0).toNat : Nat) : Int) = i by omega, g3]
    · simp only [s_X7_coverWeight_8_s]
      simp (disch := omega) only [cLt_t, cLt_f, cEq_t, cEq_f, cLtL_t, cLtL_f, cEqL_t, cEqL_f, cR_t, cRL_t, cZ_t, cN_t, cCp_t, rdA_t, ob_e, bd1_e, bd2_e, bd3_e, bd4_e, bd5_e, bd6_e, bd7_e, bd8_e, bd9_e, bd10_e, bd12_e, z1, z3]) (by
    intro fu s _
    simp only [s_X7_coverWeight_8_s]
    simp (disch := omega) only [cLt_t, cLt_f, cEq_t, cEq_f, cLtL_t, cLtL_f, cEqL_t, cEqL_f, cR_t, cRL_t, cZ_t, cN_t, cCp_t, rdA_t, ob_e, bd1_e, bd2_e, bd3_e, bd4_e, bd5_e, bd6_e, bd7_e, bd8_e, bd9_e, bd10_e, bd12_e]) FU (FU_lt (by omega))
  have b2 : s_X7_coverWeight_8 FU gv wt size2 num2 0 0 = some s := b2
  have e : s = w 0 := by rw [b1, h9, show size2 - 0 = size2 by omega]
  refine ⟨s, size2, pos2, num2, bf2, s2, k2, c, w, n, t, ?_, ?_⟩
  · unfold s_X7_coverWeight
    simp (disch := omega) only [cLt_t, cLt_f, cEq_t, cEq_f, cLtL_t, cLtL_f, cEqL_t, cEqL_f, cR_t, cRL_t, cZ_t, cN_t, cCp_t, rdA_t, ob_e, bd1_e, bd2_e, bd3_e, bd4_e, bd5_e, bd6_e, bd7_e, bd8_e, bd9_e, bd10_e, bd12_e, h2, b2]
  · unfold s_X8_coverWeight
    simp (disch := omega) only [cLt_t, cLt_f, cEq_t, cEq_f, cLtL_t, cLtL_f, cEqL_t, cEqL_f, cR_t, cRL_t, cZ_t, cN_t, cCp_t, rdA_t, ob_e, bd1_e, bd2_e, bd3_e, bd4_e, bd5_e, bd6_e, bd7_e, bd8_e, bd9_e, bd10_e, bd12_e, h1, e]
theorem op_coverSize {gv on sl sz tm th : Int} {len bytes wt live str words starts kat cA wA nA tA bf pos num tak : Int → Int} (hK : KW gv len bytes wt live) (hd : DSJ on gv len bytes live) (o1 : 0 ≤ on) (o2 : on ≤ 1) (hs1 : 0 ≤ sl) (hs2 : sl ≤ 600) (hS : RB str 0 600) (hT : TBI on gv len bytes live str sl words) : ∃ r x1 x2 x3 x4 y1 y2 y3 y4 y5 y6, s_X7_coverSize gv len wt sl words sz pos num bf = some (r, x1, x2, x3, x4) ∧ s_X8_coverSize th gv on sl len bytes wt live str starts kat cA wA nA tA = some (r, 0, y1, y2, y3, y4, y5, y6) := by
  obtain ⟨s2, k2, c, w, n, t, size2, pos2, num2, tak2, bf2, h1, h2, h3, h4, h7, h8, h9, h10⟩ := cover_both (sz := sz) (tm := tm) (starts := starts) (kat := kat) (cA := cA) (wA := wA) (nA := nA) (tA := tA) (bf := bf) (pos := pos) (num := num) (tak := tak) hK hd o1 o2 hs1 hs2 hS hT
  have hg := hK.2.1
  refine ⟨size2, size2, pos2, num2, bf2, s2, k2, c, w, n, t, ?_, ?_⟩
  · unfold s_X7_coverSize
    simp (disch := omega) only [cLt_t, cLt_f, cEq_t, cEq_f, cLtL_t, cLtL_f, cEqL_t, cEqL_f, cR_t, cRL_t, cZ_t, cN_t, cCp_t, rdA_t, ob_e, bd1_e, bd2_e, bd3_e, bd4_e, bd5_e, bd6_e, bd7_e, bd8_e, bd9_e, bd10_e, bd12_e, h2]
  · unfold s_X8_coverSize
    simp (disch := omega) only [cLt_t, cLt_f, cEq_t, cEq_f, cLtL_t, cLtL_f, cEqL_t, cEqL_f, cR_t, cRL_t, cZ_t, cN_t, cCp_t, rdA_t, ob_e, bd1_e, bd2_e, bd3_e, bd4_e, bd5_e, bd6_e, bd7_e, bd8_e, bd9_e, bd10_e, bd12_e, h1, h10]
theorem op_coverStart {gv on sl sz tm th i : Int} {len bytes wt live str words starts kat cA wA nA tA bf pos num tak : Int → Int} (hK : KW gv len bytes wt live) (hd : DSJ on gv len bytes live) (o1 : 0 ≤ on) (o2 : on ≤ 1) (hs1 : 0 ≤ sl) (hs2 : sl ≤ 600) (hS : RB str 0 600) (hT : TBI on gv len bytes live str sl words) (h5 : -2147483648 ≤ i) (h6 : i < 2147483648) : ∃ r x1 x2 x3 x4 y0 y1 y2 y3 y4 y5 y6 y7, s_X7_coverStart gv len wt sl words sz pos num bf i = some (r, x1, x2, x3, x4) ∧ s_X8_coverStart th gv on sl tm len bytes wt live str starts kat cA wA nA tA tak i = some (r, 0, y0, y1, y2, y3, y4, y5, y6, y7) := by
  obtain ⟨s2, k2, c, w, n, t, size2, pos2, num2, tak2, bf2, h1, h2, h3, h4, h7, h8, h9, h10⟩ := cover_both (sz := sz) (tm := tm) (starts := starts) (kat := kat) (cA := cA) (wA := wA) (nA := nA) (tA := tA) (bf := bf) (pos := pos) (num := num) (tak := tak) hK hd o1 o2 hs1 hs2 hS hT
  have hg := hK.2.1
  by_cases hc : i < 0
  · refine ⟨-3, sz, pos, num, bf, tm, s2, k2, c, w, n, t, tak, ?_, ?_⟩
    · unfold s_X7_coverStart
      simp (disch := omega) only [cLt_t, cLt_f, cEq_t, cEq_f, cLtL_t, cLtL_f, cEqL_t, cEqL_f, cR_t, cRL_t, cZ_t, cN_t, cCp_t, rdA_t, ob_e, bd1_e, bd2_e, bd3_e, bd4_e, bd5_e, bd6_e, bd7_e, bd8_e, bd9_e, bd10_e, bd12_e]
    · unfold s_X8_coverStart s_X8_taken
      simp (disch := omega) only [cLt_t, cLt_f, cEq_t, cEq_f, cLtL_t, cLtL_f, cEqL_t, cEqL_f, cR_t, cRL_t, cZ_t, cN_t, cCp_t, rdA_t, ob_e, bd1_e, bd2_e, bd3_e, bd4_e, bd5_e, bd6_e, bd7_e, bd8_e, bd9_e, bd10_e, bd12_e, h1]
  · have q1 := posAt_e h4 (show 0 ≤ i by omega) h6
    have q2 := taken1_e hs2 h3 h4 (show 0 ≤ i by omega) h6
    refine ⟨if i < size2 then pos2 i else -1, size2, pos2, num2, bf2, size2, s2, k2, c, w, n, t, tak2, ?_, ?_⟩
    · unfold s_X7_coverStart
      simp (disch := omega) only [cLt_t, cLt_f, cEq_t, cEq_f, cLtL_t, cLtL_f, cEqL_t, cEqL_f, cR_t, cRL_t, cZ_t, cN_t, cCp_t, rdA_t, ob_e, bd1_e, bd2_e, bd3_e, bd4_e, bd5_e, bd6_e, bd7_e, bd8_e, bd9_e, bd10_e, bd12_e, h2, q1]
    · unfold s_X8_coverStart
      simp (disch := omega) only [cLt_t, cLt_f, cEq_t, cEq_f, cLtL_t, cLtL_f, cEqL_t, cEqL_f, cR_t, cRL_t, cZ_t, cN_t, cCp_t, rdA_t, ob_e, bd1_e, bd2_e, bd3_e, bd4_e, bd5_e, bd6_e, bd7_e, bd8_e, bd9_e, bd10_e, bd12_e, h1, q2]
theorem op_coverKeyword {gv on sl sz tm th i : Int} {len bytes wt live str words starts kat cA wA nA tA bf pos num tak : Int → Int} (hK : KW gv len bytes wt live) (hd : DSJ on gv len bytes live) (o1 : 0 ≤ on) (o2 : on ≤ 1) (hs1 : 0 ≤ sl) (hs2 : sl ≤ 600) (hS : RB str 0 600) (hT : TBI on gv len bytes live str sl words) (h5 : -2147483648 ≤ i) (h6 : i < 2147483648) : ∃ r x1 x2 x3 x4 y0 y1 y2 y3 y4 y5 y6 y7, s_X7_coverKeyword gv len wt sl words sz pos num bf i = some (r, x1, x2, x3, x4) ∧ s_X8_coverKeyword th gv on sl tm len bytes wt live str starts kat cA wA nA tA tak i = some (r, 0, y0, y1, y2, y3, y4, y5, y6, y7) := by
  obtain ⟨s2, k2, c, w, n, t, size2, pos2, num2, tak2, bf2, h1, h2, h3, h4, h7, h8, h9, h10⟩ := cover_both (sz := sz) (tm := tm) (starts := starts) (kat := kat) (cA := cA) (wA := wA) (nA := nA) (tA := tA) (bf := bf) (pos := pos) (num := num) (tak := tak) hK hd o1 o2 hs1 hs2 hS hT
  have hg := hK.2.1
  by_cases hc : i < 0
  · refine ⟨-3, sz, pos, num, bf, tm, s2, k2, c, w, n, t, tak, ?_, ?_⟩
    · unfold s_X7_coverKeyword
      simp (disch := omega) only [cLt_t, cLt_f, cEq_t, cEq_f, cLtL_t, cLtL_f, cEqL_t, cEqL_f, cR_t, cRL_t, cZ_t, cN_t, cCp_t, rdA_t, ob_e, bd1_e, bd2_e, bd3_e, bd4_e, bd5_e, bd6_e, bd7_e, bd8_e, bd9_e, bd10_e, bd12_e]
    · unfold s_X8_coverKeyword s_X8_taken
      simp (disch := omega) only [cLt_t, cLt_f, cEq_t, cEq_f, cLtL_t, cLtL_f, cEqL_t, cEqL_f, cR_t, cRL_t, cZ_t, cN_t, cCp_t, rdA_t, ob_e, bd1_e, bd2_e, bd3_e, bd4_e, bd5_e, bd6_e, bd7_e, bd8_e, bd9_e, bd10_e, bd12_e, h1]
  · have q1 := kwAt_e h4 (show 0 ≤ i by omega) h6
    have q2 := taken0_e hs2 h3 h4 (show 0 ≤ i by omega) h6
    refine ⟨if i < size2 then num2 i else -1, size2, pos2, num2, bf2, size2, s2, k2, c, w, n, t, tak2, ?_, ?_⟩
    · unfold s_X7_coverKeyword
      simp (disch := omega) only [cLt_t, cLt_f, cEq_t, cEq_f, cLtL_t, cLtL_f, cEqL_t, cEqL_f, cR_t, cRL_t, cZ_t, cN_t, cCp_t, rdA_t, ob_e, bd1_e, bd2_e, bd3_e, bd4_e, bd5_e, bd6_e, bd7_e, bd8_e, bd9_e, bd10_e, bd12_e, h2, q1]
    · unfold s_X8_coverKeyword
      simp (disch := omega) only [cLt_t, cLt_f, cEq_t, cEq_f, cLtL_t, cLtL_f, cEqL_t, cEqL_f, cR_t, cRL_t, cZ_t, cN_t, cCp_t, rdA_t, ob_e, bd1_e, bd2_e, bd3_e, bd4_e, bd5_e, bd6_e, bd7_e, bd8_e, bd9_e, bd10_e, bd12_e, h1, q2]
