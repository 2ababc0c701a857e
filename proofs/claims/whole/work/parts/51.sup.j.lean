/-! ===== the superstring: built on both sides ===== -/
theorem SE.start {on gv : Int} {len bytes live st ln area el lg hd tl nx ls : Int → Int} : SE on gv len bytes live 0 0 0 st ln area el lg hd tl nx ls :=
  ⟨Int.le_refl _, Int.le_refl _, fun i a b => by omega, fun i j a b c => by omega, rfl, by omega, fun j a b => by omega, fun i j a b => by omega, fun i a b => by omega, fun q a b => by have := b.1; omega⟩
theorem SE.ci {on gv m al : Int} {len bytes wt live st ln area el lg hd tl nx ls : Int → Int} (hK : KW gv len bytes wt live) (hc : cntL live gv.toNat ≤ 40) (h : SE on gv len bytes live gv m al st ln area el lg hd tl nx ls) : CI m al st ln area := by
  obtain ⟨h1, h2, h3, h4, h5, h6, h7, h8, h9, h10⟩ := h
  refine ⟨h1, by omega, fun s a b => ?_, h5, by omega, h7⟩
  have u := h3 s a b
  have v := hK.2.2 (el s) u.1 u.2.1
  exact ⟨by omega, u.2.2.2⟩
theorem SE.jv {on gv m al : Int} {len bytes wt live st ln area ov el lg hd tl nx sk ls : Int → Int} (hK : KW gv len bytes wt live) (hJ : DSJ on gv len bytes live) (hc : cntL live gv.toNat ≤ 40) (h : SE on gv len bytes live gv m al st ln area el lg hd tl nx ls) (hO : ∀ u v, 0 ≤ u → u < m → 0 ≤ v → v < m → u ≠ v → OVV on st ln area ov u v) : JV on gv len bytes (LV gv live) m m al (fun i => i) st ln area ov el lg hd tl nx sk ls (fun _ => 1) := by
  have ci := h.ci hK hc
  obtain ⟨h1, h2, h3, h4, h5, h6, h7, h8, h9, h10⟩ := h
  have hl : ∀ i, 0 ≤ i → i < m → 1 ≤ len (el i) ∧ len (el i) ≤ 16 := fun i a b => by
    have u := h3 i a b
    have v := hK.2.2 (el i) u.1 u.2.1
    omega
  refine ⟨ci, ⟨h1, by omega, fun i a b => ⟨a, b, ?_, (h3 i a b).1, (h3 i a b).2.1⟩, fun i j a b c => ⟨b, h4 i j a b c⟩, fun s a b _ => ⟨s, a, b, rfl⟩⟩, fun u v a b c d e => hO u v a b c d e.1, fun i a b => ?_, fun i a b => ?_, fun i j a b c d e => ?_, fun s _ _ => by show (0 : Int) ≤ 1; omega, ?_, fun k hk => ?_⟩
  · show 0 < ln i
    have := hl i a b
    rw [(h3 i a b).2.2.1]; omega
  · show HT lg hd tl (el i) area (st i) (ln i)
    have g := h9 i a b
    have u := h3 i a b
    have v := hl i a b
    have q := eg_rg (show 0 ≤ len (el i) by omega)
    rw [u.2.2.1]
    refine ⟨g.1, fun j x y z => ?_, fun j x y => ?_⟩
    · have w : j < eg (len (el i)) := by
        rcases Int.lt_or_le (len (el i)) 15 with k | k
        · have := q.2.2.2.1 k; omega
        · have := q.2.2.2.2 k; omega
      rw [(g.2.2.2 j x w).1, h8 i j a b x y]
    · have := h8 i (len (el i) - eg (len (el i)) + j) a b (by omega) (by omega)
      rw [(g.2.2.2 j x y).2, show st i + len (el i) - eg (len (el i)) + j = st i + (len (el i) - eg (len (el i)) + j) by omega, this]
      congr 1; omega
  · show CHN gv len bytes nx sk ls (JE m el) (el i) area (st i) (ln i) 1
    have g := h9 i a b
    have u := h3 i a b
    have v := hl i a b
    rw [u.2.2.1]
    have m0 := mz_e (len (el i) - 0)
    have m1 := mz_e (0 - len (el i))
    refine ⟨[], ⟨g.2.1, trivial⟩, g.2.2.1, fun x hx => ?_, fun x hx => absurd hx List.not_mem_nil, ?_, ?_, fun j x y => ?_, ?_, fun x hx => absurd hx List.not_mem_nil⟩
    · rw [List.mem_singleton.mp hx]; exact ⟨u.1, u.2.1⟩
    · show mz (len (el i) - 0) + 0 = len (el i)
      omega
    · show 0 + mz (0 - len (el i)) = 0
      omega
    · rw [byc_c, if_pos (by omega), h8 i j a b x y]
      congr 1; omega
    · show ((0 : Nat) : Int) + 1 ≤ 1
      omega
  · rw [(h9 i a b).2.2.1, (h9 j c d).2.2.1]
    rcases Int.lt_trichotomy i j with k | k | k
    · have := h4 i j a k d; omega
    · exact absurd k e
    · have := h4 j i c k b; omega
  · show sm (fun _ => 1) m.toNat ≤ 40
    rw [sm_one1]; omega
  · have kk := hK.2.2 k hk.1 hk.2.1
    obtain ⟨k2, p1, p2, d, q1, q2, q3⟩ := inside_top hK hJ 16 k hk (by omega)
    obtain ⟨i, i1, i2, i3⟩ := h10 k2 p1.2.1 p1 p2
    refine ⟨i, d, i1, i2, q1, ?_, fun j u w => ?_⟩
    · show d + len k ≤ ln i
      rw [(h3 i i1 i2).2.2.1, i3]; exact q2
    · show fo on (bytes (16 * k + j)) = fo on (area (st i + d + j))
      have e := h8 i (d + j) i1 i2 (by omega) (by rw [i3]; omega)
      have f := q3 j u w
      rw [show st i + d + j = st i + (d + j) by omega, e, i3, f, show 16 * k2 + d + j = 16 * k2 + (d + j) by omega]
/-- the two superstrings are one, and every live keyword stands in it -/
def SUP (on gv : Int) (len bytes live : Int → Int) (al : Int) (area : Int → Int) (ws : Int) (whole : Int → Int) : Prop := ws = al ∧ 0 ≤ al ∧ al ≤ 640 ∧ (∀ j, 0 ≤ j → j < al → area j = whole j ∧ 0 ≤ area j ∧ area j < 256) ∧ ∀ k, LV gv live k → ∃ d, 0 ≤ d ∧ d + len k ≤ al ∧ RE on bytes (16 * k) area d (len k)
theorem build_new {on gv slots al spl els ws : Int} {sw : Bool} {len bytes wt live st ln ov area spare el lg hd tl nx sk ls whole ed : Int → Int} (hK : KW gv len bytes wt live) (hJ : DSJ on gv len bytes live) (o1 : 0 ≤ on) (o2 : on ≤ 1) (hc : cntL live gv.toNat ≤ 40) :
    ∃ slots2 sw2 st2 ln2 ov2 al2 area2 spl2 spare2 els2 ws2 el2 lg2 hd2 tl2 nx2 sk2 ls2 whole2 ed2, s_X6_build slots 0 sw on st ln ov al area spl spare gv bytes len live = some (slots2, 1, sw2, st2, ln2, ov2, al2, area2, spl2, spare2) ∧ s_X8_laysWhole gv on els ws 0 len bytes live el lg hd tl nx sk ls whole ed = some (els2, ws2, 1, el2, lg2, hd2, tl2, nx2, sk2, ls2, whole2, ed2) ∧ SUP on gv len bytes live al2 area2 ws2 whole2 := by
  have hg := hK.2.1
  have hg0 := hK.1
  obtain ⟨m2, al2, st2, ln2, area2, el2, lg2, hd2, tl2, nx2, ls2, a1, a2, a3⟩ := collectAll hK o1 o2 hc gv.toNat FU FU 0 0 0 st ln area el lg hd tl nx ls (by omega) (by omega) SE.start (FU_lt (by omega)) (FU_lt (by omega))
  have ci := a3.ci hK hc
  have m0 := ci.1
  have m40 := ci.2.1
  obtain ⟨ov2, b1, b2⟩ := build15_e (ov := ov) o1 o2 ci
  have jv := a3.jv (sk := sk) hK hJ hc b2
  obtain ⟨f, hf⟩ : ∃ f, FU = f + 1 := ⟨FU - 1, by have := FU_lt (n := 0) (by omega); omega⟩
  by_cases c : m2 = 0
  · subst c
    have al0 : al2 = 0 := a3.2.2.2.2.1
    have c1 : s_X6_build_37 FU 0 sw on st2 ln2 ov2 al2 area2 spl spare 1 = some (sw, st2, ln2, ov2, al2, area2, spl, spare) := by
      rw [hf]
      simp only [s_X6_build_37_s]
      simp (disch := omega) only [cLt_t, cLt_f, cEq_t, cEq_f, cLtL_t, cLtL_f, cEqL_t, cEqL_f, cR_t, cRL_t, cZ_t, cN_t, cCp_t, rdA_t, ob_e, bd1_e, bd2_e, bd3_e, bd4_e, bd5_e, bd6_e, bd7_e, bd8_e, bd9_e, bd10_e, bd12_e]
    have c2 : s_X8_laysWhole_22 FU on 0 el2 lg2 hd2 tl2 nx2 sk ls2 ed = some (0, el2, lg2, hd2, tl2, nx2, sk, ls2, ed) := by
      rw [hf]
      simp only [s_X8_laysWhole_22_s]
      simp (disch := omega) only [cLt_t, cLt_f, cEq_t, cEq_f, cLtL_t, cLtL_f, cEqL_t, cEqL_f, cR_t, cRL_t, cZ_t, cN_t, cCp_t, rdA_t, ob_e, bd1_e, bd2_e, bd3_e, bd4_e, bd5_e, bd6_e, bd7_e, bd8_e, bd9_e, bd10_e, bd12_e]
    refine ⟨0, sw, st2, ln2, ov2, al2, area2, spl, spare, 0, 0, el2, lg2, hd2, tl2, nx2, sk, ls2, whole, ed, ?_, ?_, al0.symm, by omega, by omega, fun j a b => by omega, fun k hk => ?_⟩
    · unfold s_X6_build s_X6_collect s_X1_clear
      simp (disch := omega) only [cLt_t, cLt_f, cEq_t, cEq_f, cLtL_t, cLtL_f, cEqL_t, cEqL_f, cR_t, cRL_t, cZ_t, cN_t, cCp_t, rdA_t, ob_e, bd1_e, bd2_e, bd3_e, bd4_e, bd5_e, bd6_e, bd7_e, bd8_e, bd9_e, bd10_e, bd12_e, a1, b1, c1]
    · unfold s_X8_laysWhole s_X8_laysElements
      simp (disch := omega) only [cLt_t, cLt_f, cEq_t, cEq_f, cLtL_t, cLtL_f, cEqL_t, cEqL_f, cR_t, cRL_t, cZ_t, cN_t, cCp_t, rdA_t, ob_e, bd1_e, bd2_e, bd3_e, bd4_e, bd5_e, bd6_e, bd7_e, bd8_e, bd9_e, bd10_e, bd12_e, a2, c2]
    · obtain ⟨i, d, i1, i2, -⟩ := jv.2.2.2.2.2.2.2.2 k hk
      omega
  · obtain ⟨sw3, st3, ln3, ov3, al3, area3, spl3, spare3, el3, lg3, hd3, tl3, nx3, sk3, ls3, ed3, sg3, cl3, c1, c2, c3⟩ := joinAll (C := LV gv live) o1 o2 hg (fun k hk => by have := hK.2.2 k hk.1 hk.2.1; omega) (m2 - 1).toNat FU FU 1 m2 al2 spl sw (fun i => i) st2 ln2 area2 ov2 el2 lg2 hd2 tl2 nx2 sk ls2 (fun _ => 1) spare ed (by omega) (by omega) jv (FU_lt (by omega)) (FU_lt (by omega))
    have one := c3.one
    obtain ⟨hCI, hJA, hOV, hHT, hCH, hLS, hcl, hcl2, hJO⟩ := c3
    have j0 := hJA.2.2.1 0 (by omega) (by omega)
    have sg := hCI.seg j0.1 j0.2.1
    obtain ⟨r, r1, r2, r3, r4, r5, r6, r7, r8, r9⟩ := hCH 0 (by omega) (by omega)
    have p1 := pf_le hcl (Int.le_refl 0) j0.1 (Int.le_of_lt j0.2.1)
    have p2 := pf_le hcl (show 0 ≤ sg3 0 + 1 by omega) (show sg3 0 + 1 ≤ m2 by omega) (Int.le_refl _)
    rw [pf_s j0.1] at p2
    rw [pf_0] at p1
    have rl : ((r.length : Nat) : Int) ≤ 40 := by omega
    have e0 := r3 (el3 0) List.mem_cons_self
    obtain ⟨w2, d1, d2, d3⟩ := laysWhole54_e hK r (el3 0) 0 0 whole FU r1 r3 r9 (by omega) (by omega) (by omega) (by rw [r5]; omega) (FU_lt (by omega))
    refine ⟨m2, sw3, st3, ln3, ov3, al3, area3, spl3, spare3, 1, 0 + lenc len sk3 (el3 0 :: r) 0, el3, lg3, hd3, tl3, nx3, sk3, ls3, w2, ed3, ?_, ?_, by rw [r5]; omega, by omega, by omega, fun j a b => ⟨?_, ?_⟩, fun k hk => ?_⟩
    · unfold s_X6_build s_X6_collect s_X1_clear
      simp (disch := omega) only [cLt_t, cLt_f, cEq_t, cEq_f, cLtL_t, cLtL_f, cEqL_t, cEqL_f, cR_t, cRL_t, cZ_t, cN_t, cCp_t, rdA_t, ob_e, bd1_e, bd2_e, bd3_e, bd4_e, bd5_e, bd6_e, bd7_e, bd8_e, bd9_e, bd10_e, bd12_e, a1, b1, c1]
    · unfold s_X8_laysWhole s_X8_laysElements
      simp (disch := omega) only [cLt_t, cLt_f, cEq_t, cEq_f, cLtL_t, cLtL_f, cEqL_t, cEqL_f, cR_t, cRL_t, cZ_t, cN_t, cCp_t, rdA_t, ob_e, bd1_e, bd2_e, bd3_e, bd4_e, bd5_e, bd6_e, bd7_e, bd8_e, bd9_e, bd10_e, bd12_e, a2, c2, d1]
    · have u := d3 j a (by rw [r5]; omega)
      have v := r7 j a (by omega)
      rw [show (0 : Int) + j = j by omega] at u
      rw [u, v, one.1]
      congr 1; omega
    · exact hCI.2.2.2.2.2 j a b
    · obtain ⟨i, d, i1, i2, d1, d2, d3⟩ := hJO k hk
      rw [show i = 0 by omega] at d2 d3
      refine ⟨d, d1, by omega, ?_⟩
      rw [one.1, show (0 : Int) + d = d by omega] at d3
      exact d3
def SI (on gv : Int) (len bytes live : Int → Int) (built laid al : Int) (area : Int → Int) (ws : Int) (whole : Int → Int) : Prop := (built = 0 ∧ laid = 0) ∨ (built = 1 ∧ laid = 1 ∧ SUP on gv len bytes live al area ws whole)
theorem build_e {on gv slots built laid al spl els ws : Int} {sw : Bool} {len bytes wt live st ln ov area spare el lg hd tl nx sk ls whole ed : Int → Int} (hK : KW gv len bytes wt live) (hJ : DSJ on gv len bytes live) (o1 : 0 ≤ on) (o2 : on ≤ 1) (hc : cntL live gv.toNat ≤ 40) (hS : SI on gv len bytes live built laid al area ws whole) :
    ∃ slots2 sw2 st2 ln2 ov2 al2 area2 spl2 spare2 els2 ws2 el2 lg2 hd2 tl2 nx2 sk2 ls2 whole2 ed2, s_X6_build slots built sw on st ln ov al area spl spare gv bytes len live = some (slots2, 1, sw2, st2, ln2, ov2, al2, area2, spl2, spare2) ∧ s_X8_laysWhole gv on els ws laid len bytes live el lg hd tl nx sk ls whole ed = some (els2, ws2, 1, el2, lg2, hd2, tl2, nx2, sk2, ls2, whole2, ed2) ∧ SUP on gv len bytes live al2 area2 ws2 whole2 := by
  rcases hS with ⟨e1, e2⟩ | ⟨e1, e2, e3⟩
  · subst e1; subst e2
    exact build_new hK hJ o1 o2 hc
  · subst e1; subst e2
    refine ⟨slots, sw, st, ln, ov, al, area, spl, spare, els, ws, el, lg, hd, tl, nx, sk, ls, whole, ed, ?_, ?_, e3⟩
    · unfold s_X6_build
      simp (disch := omega) only [cLt_t, cLt_f, cEq_t, cEq_f, cLtL_t, cLtL_f, cEqL_t, cEqL_f, cR_t, cRL_t, cZ_t, cN_t, cCp_t, rdA_t, ob_e, bd1_e, bd2_e, bd3_e, bd4_e, bd5_e, bd6_e, bd7_e, bd8_e, bd9_e, bd10_e, bd12_e]
    · unfold s_X8_laysWhole
      simp (disch := omega) only [cLt_t, cLt_f, cEq_t, cEq_f, cLtL_t, cLtL_f, cEqL_t, cEqL_f, cR_t, cRL_t, cZ_t, cN_t, cCp_t, rdA_t, ob_e, bd1_e, bd2_e, bd3_e, bd4_e, bd5_e, bd6_e, bd7_e, bd8_e, bd9_e, bd10_e, bd12_e]
