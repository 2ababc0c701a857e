/-! ===== overlapping pairs, and the deepest place ===== -/
theorem op_overlappingPairs {gv on sl th : Int} {len bytes wt live str words starts kat depths : Int → Int} (hK : KW gv len bytes wt live) (hd : DSJ on gv len bytes live) (o1 : 0 ≤ on) (o2 : on ≤ 1) (hs1 : 0 ≤ sl) (hs2 : sl ≤ 600) (hS : RB str 0 600) (hT : TBI on gv len bytes live str sl words) : ∃ r d2 s2 k2, s_X7_overlappingPairs sl words depths = some (r, d2) ∧ s_X8_overlappingPairs th gv on sl len bytes live str starts kat = some (r, 0, s2, k2) := by
  obtain ⟨s2, k2, l1, l2⟩ := X8_laysMatches_e (starts := starts) (kat := kat) hK hd o1 o2 hs1 hs2 hS hT
  obtain ⟨d2, m1, m2⟩ := measureDepths_e (words := words) (depths := depths) hs1 hs2
  obtain ⟨a, a1, a2⟩ := loopJ (fun fu (s : Int) p => s_X7_overlappingPairs_8 fu sl words d2 s p) (fun s => s) 0 sl hs1 0 (fun p s => s = sm (fun i => iDiv (cf words (i : Int) * (cf words (i : Int) - 1)) 2) (p - 0).toNat + sm (fun i => cf words (i : Int) * Rp words (i : Int)) (p - 0).toNat) rfl (by
    intro fu s p g1 g2 g3
    have x1 := X5_countFrom_e (words := words) (p := p) g1 (by omega)
    have x2 := m2 p g1 g2
    have x3 : Dp words p - cf words p = Rp words p := by rw [Dp_e]; omega
    have x4 : (((p - 0).toNat : Nat) : Int) = p := by omega
    refine ⟨s + (cf words p * Rp words p + iDiv (cf words p * (cf words p - 1)) 2), ?_, ?_⟩
    · show s + _ = _
      rw [sm_nx g1, sm_nx g1, x4, g3]; omega
    · simp only [s_X7_overlappingPairs_8_s]
      simp (disch := omega) only [cLt_t, cLt_f, cEq_t, cEq_f, cLtL_t, cLtL_f, cEqL_t, cEqL_f, cR_t, cRL_t, cZ_t, cN_t, cCp_t, rdA_t, ob_e, bd1_e, bd2_e, bd3_e, bd4_e, bd5_e, bd6_e, bd7_e, bd8_e, bd9_e, bd10_e, bd12_e, x1, x2, x3]) (by
    intro fu s _
    simp only [s_X7_overlappingPairs_8_s]
    simp (disch := omega) only [cLt_t, cLt_f, cEq_t, cEq_f, cLtL_t, cLtL_f, cEqL_t, cEqL_f, cR_t, cRL_t, cZ_t, cN_t, cCp_t, rdA_t, ob_e, bd1_e, bd2_e, bd3_e, bd4_e, bd5_e, bd6_e, bd7_e, bd8_e, bd9_e, bd10_e, bd12_e]) FU (FU_lt (by omega))
  have a2 : s_X7_overlappingPairs_8 FU sl words d2 0 0 = some a := a2
  obtain ⟨b, b1, b2⟩ := loopJ (fun fu (s : Int) p => s_X8_overlappingPairs_13 fu sl s2 s p) (fun s => s) 0 sl hs1 0 (fun p s => s = sm (fun i => iDiv (cf words (i : Int) * (cf words (i : Int) - 1)) 2) (p - 0).toNat + sm (fun i => Mo words (i : Int)) (p - 0).toNat) rfl (by
    intro fu s p g1 g2 g3
    have x1 := X8_startsAt_e l2 hs2 g1 g2
    have x4 : (((p - 0).toNat : Nat) : Int) = p := by omega
    obtain ⟨c, c1, c2⟩ := loopJ (fun fu (u : Int) l => s_X8_overlappingPairs_40 fu s2 u p l) (fun s => s) 1 17 (by omega) (s + iDiv (cf words p * (cf words p - 1)) 2) (fun l u => u = s + iDiv (cf words p * (cf words p - 1)) 2 + sm (fun l => ha words p ((l : Int) + 1) * sm (fun j => cf words (p + 1 + (j : Int))) l) (l - 1).toNat) (by show _ = _ + 0; omega) (by
      intro fu u l y1 y2 y3
      have z1 := X8_hasAt_e l2 hs2 g1 g2 y1 (show l ≤ 16 by omega)
      have z2 := ha_rg words p l
      have z3 : (((l - 1).toNat : Nat) : Int) + 1 = l := by omega
      by_cases c : ha words p l = 0
      · refine ⟨u, ?_, ?_⟩
        · show u = _
          rw [sm_nx y1, z3, c, Int.zero_mul, y3]; omega
        · simp only [s_X8_overlappingPairs_40_s]
          simp (disch := omega) only [cLt_t, cLt_f, cEq_t, cEq_f, cLtL_t, cLtL_f, cEqL_t, cEqL_f, cR_t, cRL_t, cZ_t, cN_t, cCp_t, rdA_t, ob_e, bd1_e, bd2_e, bd3_e, bd4_e, bd5_e, bd6_e, bd7_e, bd8_e, bd9_e, bd10_e, bd12_e, z1]
      · have hE := ha_end hT c
        obtain ⟨e, e1, e2⟩ := loopJ (fun fu (v : Int) q => s_X8_overlappingPairs_65 fu s2 v p l q) (fun s => s) (p + 1) (p + l) (by omega) u (fun q v => v = u + sm (fun j => cf words (p + 1 + (j : Int))) (q - (p + 1)).toNat) (by show u = u + sm _ (p + 1 - (p + 1)).toNat; rw [show (p + 1 - (p + 1)).toNat = 0 by omega]; show u = u + 0; omega) (by
          intro fu v q w1 w2 w3
          have t1 := X8_startsAt_e l2 hs2 (show 0 ≤ q by omega) (show q < sl by omega)
          refine ⟨v + cf words q, ?_, ?_⟩
          · show v + _ = _
            rw [sm_nx w1, show p + 1 + (((q - (p + 1)).toNat : Nat) : Int) = q by omega, w3]; omega
          · simp only [s_X8_overlappingPairs_65_s]
            simp (disch := omega) only [cLt_t, cLt_f, cEq_t, cEq_f, cLtL_t, cLtL_f, cEqL_t, cEqL_f, cR_t, cRL_t, cZ_t, cN_t, cCp_t, rdA_t, ob_e, bd1_e, bd2_e, bd3_e, bd4_e, bd5_e, bd6_e, bd7_e, bd8_e, bd9_e, bd10_e, bd12_e, t1]) (by
          intro fu s _
          simp only [s_X8_overlappingPairs_65_s]
          simp (disch := omega) only [cLt_t, cLt_f, cEq_t, cEq_f, cLtL_t, cLtL_f, cEqL_t, cEqL_f, cR_t, cRL_t, cZ_t, cN_t, cCp_t, rdA_t, ob_e, bd1_e, bd2_e, bd3_e, bd4_e, bd5_e, bd6_e, bd7_e, bd8_e, bd9_e, bd10_e, bd12_e]) FU (FU_lt (by omega))
        have e2 : s_X8_overlappingPairs_65 FU s2 u p l (p + 1) = some e := e2
        have c1 : ha words p l = 1 := by omega
        refine ⟨e, ?_, ?_⟩
        · show e = _
          rw [sm_nx y1, z3, c1, Int.one_mul, e1, y3, show (p + l - (p + 1)).toNat = (l - 1).toNat by omega]; omega
        · simp only [s_X8_overlappingPairs_40_s]
          simp (disch := omega) only [cLt_t, cLt_f, cEq_t, cEq_f, cLtL_t, cLtL_f, cEqL_t, cEqL_f, cR_t, cRL_t, cZ_t, cN_t, cCp_t, rdA_t, ob_e, bd1_e, bd2_e, bd3_e, bd4_e, bd5_e, bd6_e, bd7_e, bd8_e, bd9_e, bd10_e, bd12_e, z1, c1, e2]) (by
      intro fu s _
      simp only [s_X8_overlappingPairs_40_s]
      simp (disch := omega) only [cLt_t, cLt_f, cEq_t, cEq_f, cLtL_t, cLtL_f, cEqL_t, cEqL_f, cR_t, cRL_t, cZ_t, cN_t, cCp_t, rdA_t, ob_e, bd1_e, bd2_e, bd3_e, bd4_e, bd5_e, bd6_e, bd7_e, bd8_e, bd9_e, bd10_e, bd12_e]) FU (FU_lt (by omega))
    have c2 : s_X8_overlappingPairs_40 FU s2 (s + iDiv (cf words p * (cf words p - 1)) 2) p 1 = some c := c2
    refine ⟨c, ?_, ?_⟩
    · show c = _
      have c1 : c = s + iDiv (cf words p * (cf words p - 1)) 2 + Mo words p := c1
      rw [sm_nx g1, sm_nx g1, x4, c1, g3]; omega
    · simp only [s_X8_overlappingPairs_13_s]
      simp (disch := omega) only [cLt_t, cLt_f, cEq_t, cEq_f, cLtL_t, cLtL_f, cEqL_t, cEqL_f, cR_t, cRL_t, cZ_t, cN_t, cCp_t, rdA_t, ob_e, bd1_e, bd2_e, bd3_e, bd4_e, bd5_e, bd6_e, bd7_e, bd8_e, bd9_e, bd10_e, bd12_e, x1, c2]) (by
    intro fu s _
    simp only [s_X8_overlappingPairs_13_s]
    simp (disch := omega) only [cLt_t, cLt_f, cEq_t, cEq_f, cLtL_t, cLtL_f, cEqL_t, cEqL_f, cR_t, cRL_t, cZ_t, cN_t, cCp_t, rdA_t, ob_e, bd1_e, bd2_e, bd3_e, bd4_e, bd5_e, bd6_e, bd7_e, bd8_e, bd9_e, bd10_e, bd12_e]) FU (FU_lt (by omega))
  have b2 : s_X8_overlappingPairs_13 FU sl s2 0 0 = some b := b2
  have e : b = a := by
    rw [a1, b1, show sl - 0 = sl by omega, pairs_e hT hs1]
  subst e
  refine ⟨b, d2, s2, k2, ?_, ?_⟩
  · unfold s_X7_overlappingPairs
    simp (disch := omega) only [cLt_t, cLt_f, cEq_t, cEq_f, cLtL_t, cLtL_f, cEqL_t, cEqL_f, cR_t, cRL_t, cZ_t, cN_t, cCp_t, rdA_t, ob_e, bd1_e, bd2_e, bd3_e, bd4_e, bd5_e, bd6_e, bd7_e, bd8_e, bd9_e, bd10_e, bd12_e, m1, a2]
  · unfold s_X8_overlappingPairs
    simp (disch := omega) only [cLt_t, cLt_f, cEq_t, cEq_f, cLtL_t, cLtL_f, cEqL_t, cEqL_f, cR_t, cRL_t, cZ_t, cN_t, cCp_t, rdA_t, ob_e, bd1_e, bd2_e, bd3_e, bd4_e, bd5_e, bd6_e, bd7_e, bd8_e, bd9_e, bd10_e, bd12_e, l1, b2]
/-- the model's count at a place -/
theorem X8_depthAt_e {sl p : Int} {words s2 k2 : Int → Int} (l2 : LM sl words s2 k2) (hs2 : sl ≤ 600) (g1 : 0 ≤ p) (g2 : p < sl) (t a : Int) (ha1 : 0 ≤ a) (ha2 : a ≤ p) (ha3 : p - 15 ≤ a) (hz : a = 0 ∨ a = p - 15) : s_X8_maximumDepth_41 FU s2 t p 0 a = some (Dp words p) := by
  obtain ⟨b, b1, b2⟩ := loopJ (fun fu (u : Int) q => s_X8_maximumDepth_41 fu s2 t p u q) (fun s => s) a (p + 1) (by omega) 0 (fun q u => u = sm (fun j => Dq words p (p - a - (j : Int)).toNat) (q - a).toNat) (by show 0 = sm _ (a - a).toNat; rw [show (a - a).toNat = 0 by omega]; rfl) (by
    intro fu u q w1 w2 w3
    obtain ⟨c, c1, c2⟩ := loopJ (fun fu (v : Int) l => s_X8_maximumDepth_55 fu s2 t p v q l) (fun s => s) (p - q + 1) 17 (by omega) u (fun l v => v = u + sm (fun j => ha words q ((((p - q).toNat + j : Nat) : Int) + 1)) (l - (p - q + 1)).toNat) (by show u = u + sm _ (p - q + 1 - (p - q + 1)).toNat; rw [show (p - q + 1 - (p - q + 1)).toNat = 0 by omega]; show u = u + 0; omega) (by
      intro fu v l y1 y2 y3
      have z1 := X8_hasAt_e l2 hs2 (show 0 ≤ q by omega) (show q < sl by omega) (show 1 ≤ l by omega) (show l ≤ 16 by omega)
      have z2 := ha_rg words q l
      refine ⟨v + ha words q l, ?_, ?_⟩
      · show v + _ = _
        rw [sm_nx y1, show ((((p - q).toNat + (l - (p - q + 1)).toNat : Nat)) : Int) + 1 = l by omega, y3]; omega
      · simp only [s_X8_maximumDepth_55_s]
        by_cases c : ha words q l = 0
        · simp (disch := omega) only [cLt_t, cLt_f, cEq_t, cEq_f, cLtL_t, cLtL_f, cEqL_t, cEqL_f, cR_t, cRL_t, cZ_t, cN_t, cCp_t, rdA_t, ob_e, bd1_e, bd2_e, bd3_e, bd4_e, bd5_e, bd6_e, bd7_e, bd8_e, bd9_e, bd10_e, bd12_e, z1]
          rw [c]
        · simp (disch := omega) only [cLt_t, cLt_f, cEq_t, cEq_f, cLtL_t, cLtL_f, cEqL_t, cEqL_f, cR_t, cRL_t, cZ_t, cN_t, cCp_t, rdA_t, ob_e, bd1_e, bd2_e, bd3_e, bd4_e, bd5_e, bd6_e, bd7_e, bd8_e, bd9_e, bd10_e, bd12_e, z1]
          rw [show ha words q l = 1 by omega]) (by
      intro fu s _
      simp only [s_X8_maximumDepth_55_s]
      simp (disch := omega) only [cLt_t, cLt_f, cEq_t, cEq_f, cLtL_t, cLtL_f, cEqL_t, cEqL_f, cR_t, cRL_t, cZ_t, cN_t, cCp_t, rdA_t, ob_e, bd1_e, bd2_e, bd3_e, bd4_e, bd5_e, bd6_e, bd7_e, bd8_e, bd9_e, bd10_e, bd12_e]) FU (FU_lt (by omega))
    have c2 : s_X8_maximumDepth_55 FU s2 t p u q (p - q + 1) = some c := c2
    refine ⟨c, ?_, ?_⟩
    · show c = _
      rw [sm_nx w1, c1, show p - a - (((q - a).toNat : Nat) : Int) = p - q by omega, show (17 - (p - q + 1)).toNat = 16 - (p - q).toNat by omega]
      have hq : Dq words p (p - q).toNat = sm (fun j => ha words q ((((p - q).toNat + j : Nat) : Int) + 1)) (16 - (p - q).toNat) := by
        unfold Dq
        rw [show p - (((p - q).toNat : Nat) : Int) = q by omega]
        exact sm_cutL (f := fun l => ha words q ((l : Int) + 1)) 16 (by omega)
      rw [hq, w3]
    · simp only [s_X8_maximumDepth_41_s]
      simp (disch := omega) only [cLt_t, cLt_f, cEq_t, cEq_f, cLtL_t, cLtL_f, cEqL_t, cEqL_f, cR_t, cRL_t, cZ_t, cN_t, cCp_t, rdA_t, ob_e, bd1_e, bd2_e, bd3_e, bd4_e, bd5_e, bd6_e, bd7_e, bd8_e, bd9_e, bd10_e, bd12_e, c2]) (by
    intro fu s _
    simp only [s_X8_maximumDepth_41_s]
    simp (disch := omega) only [cLt_t, cLt_f, cEq_t, cEq_f, cLtL_t, cLtL_f, cEqL_t, cEqL_f, cR_t, cRL_t, cZ_t, cN_t, cCp_t, rdA_t, ob_e, bd1_e, bd2_e, bd3_e, bd4_e, bd5_e, bd6_e, bd7_e, bd8_e, bd9_e, bd10_e, bd12_e]) FU (FU_lt (by omega))
  have b2 : s_X8_maximumDepth_41 FU s2 t p 0 a = some b := b2
  rw [b2]
  congr 1
  rw [b1]
  have r := sm_rev (fun i => Dq words p i) (p + 1 - a).toNat
  have r2 : sm (fun j => Dq words p (p - a - (j : Int)).toNat) (p + 1 - a).toNat = sm (fun i => Dq words p ((p + 1 - a).toNat - 1 - i)) (p + 1 - a).toNat := sm_c (fun j hj => by rw [show (p - a - (j : Int)).toNat = (p + 1 - a).toNat - 1 - j by omega])
  rw [r2, r]
  unfold Dp
  refine (sm_ext 16 (by omega) (fun i h1 h2 => ?_)).symm
  refine sm_z (fun l hl => ?_)
  rw [ha_neg (by omega)]
  split <;> rfl
def mxf (f : Int → Int) : Nat → Int
  | 0 => 0
  | n + 1 => iMax (mxf f n) (f (n : Int))
theorem mxf_rg {f : Int → Int} {B : Int} (hB : 0 ≤ B) (h : ∀ p, f p ≤ B) : ∀ n : Nat, 0 ≤ mxf f n ∧ mxf f n ≤ B := by
  intro n
  induction n with
  | zero => exact ⟨Int.le_refl _, hB⟩
  | succ n ih =>
    unfold mxf iMax
    have := h (n : Int)
    split <;> omega
theorem op_maximumDepth {gv on sl th : Int} {len bytes wt live str words starts kat depths : Int → Int} (hK : KW gv len bytes wt live) (hd : DSJ on gv len bytes live) (o1 : 0 ≤ on) (o2 : on ≤ 1) (hs1 : 0 ≤ sl) (hs2 : sl ≤ 600) (hS : RB str 0 600) (hT : TBI on gv len bytes live str sl words) : ∃ r d2 s2 k2, s_X7_maximumDepth sl words depths = some (r, d2) ∧ s_X8_maximumDepth th gv on sl len bytes live str starts kat = some (r, 0, s2, k2) := by
  obtain ⟨s2, k2, l1, l2⟩ := X8_laysMatches_e (starts := starts) (kat := kat) hK hd o1 o2 hs1 hs2 hS hT
  obtain ⟨d2, m1, m2⟩ := measureDepths_e (words := words) (depths := depths) hs1 hs2
  have hm := mxf_rg (f := Dp words) (B := 256) (by omega) (fun p => (Dp_rg words p).2)
  obtain ⟨a, a1, a2⟩ := loopJ (fun fu (s : Int) p => s_X7_maximumDepth_8 fu sl d2 s p) (fun s => s) 0 sl hs1 0 (fun p s => s = mxf (Dp words) (p - 0).toNat) rfl (by
    intro fu s p g1 g2 g3
    have g3 : s = mxf (Dp words) (p - 0).toNat := g3
    have x2 := m2 p g1 g2
    have x3 := Dp_rg words p
    have x4 := hm (p - 0).toNat
    refine ⟨iMax s (Dp words p), ?_, ?_⟩
    · show iMax s (Dp words p) = mxf (Dp words) (p + 1 - 0).toNat
      rw [show (p + 1 - 0).toNat = (p - 0).toNat + 1 by omega]
      show _ = iMax (mxf (Dp words) (p - 0).toNat) (Dp words (((p - 0).toNat : Nat) : Int))
      rw [show (((p - 0).toNat : Nat) : Int) = p by omega, g3]
    · simp only [s_X7_maximumDepth_8_s]
      simp (disch := omega) only [cLt_t, cLt_f, cEq_t, cEq_f, cLtL_t, cLtL_f, cEqL_t, cEqL_f, cR_t, cRL_t, cZ_t, cN_t, cCp_t, rdA_t, ob_e, bd1_e, bd2_e, bd3_e, bd4_e, bd5_e, bd6_e, bd7_e, bd8_e, bd9_e, bd10_e, bd12_e, x2]) (by
    intro fu s _
    simp only [s_X7_maximumDepth_8_s]
    simp (disch := omega) only [cLt_t, cLt_f, cEq_t, cEq_f, cLtL_t, cLtL_f, cEqL_t, cEqL_f, cR_t, cRL_t, cZ_t, cN_t, cCp_t, rdA_t, ob_e, bd1_e, bd2_e, bd3_e, bd4_e, bd5_e, bd6_e, bd7_e, bd8_e, bd9_e, bd10_e, bd12_e]) FU (FU_lt (by omega))
  have a2 : s_X7_maximumDepth_8 FU sl d2 0 0 = some a := a2
  obtain ⟨b, b1, b2⟩ := loopJ (fun fu (s : Int) p => s_X8_maximumDepth_13 fu sl s2 s p) (fun s => s) 0 sl hs1 0 (fun p s => s = mxf (Dp words) (p - 0).toNat) rfl (by
    intro fu s p g1 g2 g3
    have g3 : s = mxf (Dp words) (p - 0).toNat := g3
    have x3 := Dp_rg words p
    have x4 := hm (p - 0).toNat
    refine ⟨iMax s (Dp words p), ?_, ?_⟩
    · show iMax s (Dp words p) = mxf (Dp words) (p + 1 - 0).toNat
      rw [show (p + 1 - 0).toNat = (p - 0).toNat + 1 by omega]
      show _ = iMax (mxf (Dp words) (p - 0).toNat) (Dp words (((p - 0).toNat : Nat) : Int))
      rw [show (((p - 0).toNat : Nat) : Int) = p by omega, g3]
    · simp only [s_X8_maximumDepth_13_s]
      by_cases c : p < 16
      · have y := X8_depthAt_e l2 hs2 g1 g2 s 0 (by omega) g1 (by omega) (Or.inl rfl)
        by_cases c2 : s < Dp words p
        · simp (disch := omega) only [cLt_t, cLt_f, cEq_t, cEq_f, cLtL_t, cLtL_f, cEqL_t, cEqL_f, cR_t, cRL_t, cZ_t, cN_t, cCp_t, rdA_t, ob_e, bd1_e, bd2_e, bd3_e, bd4_e, bd5_e, bd6_e, bd7_e, bd8_e, bd9_e, bd10_e, bd12_e, y]
          rw [show iMax s (Dp words p) = Dp words p by unfold iMax; split <;> omega]
        · simp (disch := omega) only [cLt_t, cLt_f, cEq_t, cEq_f, cLtL_t, cLtL_f, cEqL_t, cEqL_f, cR_t, cRL_t, cZ_t, cN_t, cCp_t, rdA_t, ob_e, bd1_e, bd2_e, bd3_e, bd4_e, bd5_e, bd6_e, bd7_e, bd8_e, bd9_e, bd10_e, bd12_e, y]
          rw [show iMax s (Dp words p) = s by unfold iMax; split <;> omega]
      · have y := X8_depthAt_e l2 hs2 g1 g2 s (p - 16 + 1) (by omega) (by omega) (by omega) (Or.inr (by omega))
        by_cases c2 : s < Dp words p
        · simp (disch := omega) only [cLt_t, cLt_f, cEq_t, cEq_f, cLtL_t, cLtL_f, cEqL_t, cEqL_f, cR_t, cRL_t, cZ_t, cN_t, cCp_t, rdA_t, ob_e, bd1_e, bd2_e, bd3_e, bd4_e, bd5_e, bd6_e, bd7_e, bd8_e, bd9_e, bd10_e, bd12_e, y]
          rw [show iMax s (Dp words p) = Dp words p by unfold iMax; split <;> omega]
        · simp (disch := omega) only [cLt_t, cLt_f, cEq_t, cEq_f, cLtL_t, cLtL_f, cEqL_t, cEqL_f, cR_t, cRL_t, cZ_t, cN_t, cCp_t, rdA_t, ob_e, bd1_e, bd2_e, bd3_e, bd4_e, bd5_e, bd6_e, bd7_e, bd8_e, bd9_e, bd10_e, bd12_e, y]
          rw [show iMax s (Dp words p) = s by unfold iMax; split <;> omega]) (by
    intro fu s _
    simp only [s_X8_maximumDepth_13_s]
    simp (disch := omega) only [cLt_t, cLt_f, cEq_t, cEq_f, cLtL_t, cLtL_f, cEqL_t, cEqL_f, cR_t, cRL_t, cZ_t, cN_t, cCp_t, rdA_t, ob_e, bd1_e, bd2_e, bd3_e, bd4_e, bd5_e, bd6_e, bd7_e, bd8_e, bd9_e, bd10_e, bd12_e]) FU (FU_lt (by omega))
  have b2 : s_X8_maximumDepth_13 FU sl s2 0 0 = some b := b2
  have e : b = a := by rw [a1, b1]
  subst e
  refine ⟨b, d2, s2, k2, ?_, ?_⟩
  · unfold s_X7_maximumDepth
    simp (disch := omega) only [cLt_t, cLt_f, cEq_t, cEq_f, cLtL_t, cLtL_f, cEqL_t, cEqL_f, cR_t, cRL_t, cZ_t, cN_t, cCp_t, rdA_t, ob_e, bd1_e, bd2_e, bd3_e, bd4_e, bd5_e, bd6_e, bd7_e, bd8_e, bd9_e, bd10_e, bd12_e, m1, a2]
  · unfold s_X8_maximumDepth
    simp (disch := omega) only [cLt_t, cLt_f, cEq_t, cEq_f, cLtL_t, cLtL_f, cEqL_t, cEqL_f, cR_t, cRL_t, cZ_t, cN_t, cCp_t, rdA_t, ob_e, bd1_e, bd2_e, bd3_e, bd4_e, bd5_e, bd6_e, bd7_e, bd8_e, bd9_e, bd10_e, bd12_e, l1, b2]
