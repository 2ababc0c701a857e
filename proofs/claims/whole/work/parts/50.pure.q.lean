/-! ===== counting matches ===== -/
def cf (words : Int → Int) (p : Int) : Int := sm (fun i => ha words p ((i : Int) + 1)) 16
def ctE (words : Int → Int) (e : Int) : Int := sm (fun i => ha words (e - (i : Int)) ((i : Int) + 1)) 16
theorem sm_rg {f : Nat → Int} {B : Int} {n : Nat} (h : ∀ i, i < n → 0 ≤ f i ∧ f i ≤ B) : 0 ≤ sm f n ∧ sm f n ≤ n * B := by
  induction n with
  | zero => exact ⟨Int.le_refl _, by show (0 : Int) ≤ ((0 : Nat) : Int) * B; omega⟩
  | succ n ih =>
    have h1 := ih (fun i hi => h i (by omega))
    have h2 := h n (by omega)
    have e : (((n + 1 : Nat) : Int)) * B = (n : Int) * B + B := by rw [show (((n + 1 : Nat) : Int)) = (n : Int) + 1 by omega, Int.add_mul]; omega
    unfold sm
    rw [e]
    omega
theorem cf_rg (words : Int → Int) (p : Int) : 0 ≤ cf words p ∧ cf words p ≤ 16 := by
  have := sm_rg (f := fun i => ha words p ((i : Int) + 1)) (B := 1) (n := 16) (fun i _ => ha_rg _ _ _)
  unfold cf; omega
theorem ctE_rg (words : Int → Int) (p : Int) : 0 ≤ ctE words p ∧ ctE words p ≤ 16 := by
  have := sm_rg (f := fun i => ha words (p - (i : Int)) ((i : Int) + 1)) (B := 1) (n := 16) (fun i _ => ha_rg _ _ _)
  unfold ctE; omega
theorem X5_countFrom_e {words : Int → Int} {p : Int} (h1 : 0 ≤ p) (h2 : p < 1000000) : s_X5_countFrom words p = some (cf words p) := by
  have main := loopR (fun fu (st : Int × Int) => s_X5_countFrom_4 fu words p st.1 st.2) (fun st => (17 - st.2).toNat) (fun st => 1 ≤ st.2 ∧ st.2 ≤ 17 ∧ st.1 = sm (fun i => ha words p ((i : Int) + 1)) (st.2 - 1).toNat) (fun r => r = cf words p) ?_ FU (0, 1) ⟨Int.le_refl _, by show (1 : Int) ≤ 17; omega, rfl⟩ (FU_lt (by show ((17 : Int) - 1).toNat < _; omega))
  · obtain ⟨r, e1, e2⟩ := main
    have e1 : s_X5_countFrom_4 FU words p 0 1 = some r := e1
    unfold s_X5_countFrom
    simp (disch := omega) only [cLt_t, cLt_f, cEq_t, cEq_f, cLtL_t, cLtL_f, cEqL_t, cEqL_f, cR_t, cRL_t, cZ_t, cN_t, cCp_t, rdA_t, ob_e, bd1_e, bd2_e, bd3_e, bd4_e, bd5_e, bd6_e, bd7_e, bd8_e, bd9_e, bd10_e, bd12_e, e1, e2]
  · intro fu ⟨t, l⟩ ⟨g1, g2, g3⟩
    have g1 : 1 ≤ l := g1
    have g2 : l ≤ 17 := g2
    have g3 : t = sm (fun i => ha words p ((i : Int) + 1)) (l - 1).toNat := g3
    simp only [s_X5_countFrom_4_s]
    by_cases h : 16 < l
    · left
      refine ⟨t, by simp (disch := omega) only [cLt_t, cLt_f, cEq_t, cEq_f, cLtL_t, cLtL_f, cEqL_t, cEqL_f, cR_t, cRL_t, cZ_t, cN_t, cCp_t, rdA_t, ob_e, bd1_e, bd2_e, bd3_e, bd4_e, bd5_e, bd6_e, bd7_e, bd8_e, bd9_e, bd10_e, bd12_e], ?_⟩
      rw [g3, show (l - 1).toNat = 16 by omega]; rfl
    · right
      obtain ⟨x, x1, x2, x3, x4⟩ := X5_at_h (words := words) (p := p) (l := l) (by omega) (by omega) (by omega) (by omega)
      have es : (l + 1 - 1).toNat = (l - 1).toNat + 1 := by omega
      have el : (((l - 1).toNat : Nat) : Int) + 1 = l := by omega
      rcases x4 with ⟨y1, y2⟩ | ⟨y1, y2, y3⟩
      · refine ⟨(t, l + 1), ⟨by show 1 ≤ l + 1; omega, by show l + 1 ≤ 17; omega, ?_⟩, by show ((17 : Int) - (l + 1)).toNat < (17 - l).toNat; omega, ?_⟩
        · show t = sm _ (l + 1 - 1).toNat
          rw [es]; unfold sm; rw [el, g3, y2]; omega
        · simp (disch := omega) only [cLt_t, cLt_f, cEq_t, cEq_f, cLtL_t, cLtL_f, cEqL_t, cEqL_f, cR_t, cRL_t, cZ_t, cN_t, cCp_t, rdA_t, ob_e, bd1_e, bd2_e, bd3_e, bd4_e, bd5_e, bd6_e, bd7_e, bd8_e, bd9_e, bd10_e, bd12_e, x1]
      · refine ⟨(t + 1, l + 1), ⟨by show 1 ≤ l + 1; omega, by show l + 1 ≤ 17; omega, ?_⟩, by show ((17 : Int) - (l + 1)).toNat < (17 - l).toNat; omega, ?_⟩
        · show t + 1 = sm _ (l + 1 - 1).toNat
          rw [es]; unfold sm; rw [el, g3, y2]
        · simp (disch := omega) only [cLt_t, cLt_f, cEq_t, cEq_f, cLtL_t, cLtL_f, cEqL_t, cEqL_f, cR_t, cRL_t, cZ_t, cN_t, cCp_t, rdA_t, ob_e, bd1_e, bd2_e, bd3_e, bd4_e, bd5_e, bd6_e, bd7_e, bd8_e, bd9_e, bd10_e, bd12_e, x1]
theorem X5_countTo_e {words : Int → Int} {p : Int} (h1 : 0 ≤ p) (h2 : p < 1000000) : s_X5_countTo words p = some (ctE words p) := by
  have main := loopR (fun fu (st : Int × Int) => s_X5_countTo_4 fu words p st.1 st.2) (fun st => (17 - st.2).toNat) (fun st => 1 ≤ st.2 ∧ st.2 ≤ 17 ∧ st.1 = sm (fun i => ha words (p - (i : Int)) ((i : Int) + 1)) (st.2 - 1).toNat) (fun r => r = ctE words p) ?_ FU (0, 1) ⟨Int.le_refl _, by show (1 : Int) ≤ 17; omega, rfl⟩ (FU_lt (by show ((17 : Int) - 1).toNat < _; omega))
  · obtain ⟨r, e1, e2⟩ := main
    have e1 : s_X5_countTo_4 FU words p 0 1 = some r := e1
    unfold s_X5_countTo
    simp (disch := omega) only [cLt_t, cLt_f, cEq_t, cEq_f, cLtL_t, cLtL_f, cEqL_t, cEqL_f, cR_t, cRL_t, cZ_t, cN_t, cCp_t, rdA_t, ob_e, bd1_e, bd2_e, bd3_e, bd4_e, bd5_e, bd6_e, bd7_e, bd8_e, bd9_e, bd10_e, bd12_e, e1, e2]
  · intro fu ⟨t, l⟩ ⟨g1, g2, g3⟩
    have g1 : 1 ≤ l := g1
    have g2 : l ≤ 17 := g2
    have g3 : t = sm (fun i => ha words (p - (i : Int)) ((i : Int) + 1)) (l - 1).toNat := g3
    simp only [s_X5_countTo_4_s]
    by_cases h : 16 < l
    · left
      refine ⟨t, by simp (disch := omega) only [cLt_t, cLt_f, cEq_t, cEq_f, cLtL_t, cLtL_f, cEqL_t, cEqL_f, cR_t, cRL_t, cZ_t, cN_t, cCp_t, rdA_t, ob_e, bd1_e, bd2_e, bd3_e, bd4_e, bd5_e, bd6_e, bd7_e, bd8_e, bd9_e, bd10_e, bd12_e], ?_⟩
      rw [g3, show (l - 1).toNat = 16 by omega]; rfl
    · right
      obtain ⟨x, x1, x2, x3, x4⟩ := X5_at_h (words := words) (p := p - l + 1) (l := l) (by omega) (by omega) (by omega) (by omega)
      have es : (l + 1 - 1).toNat = (l - 1).toNat + 1 := by omega
      have el : (((l - 1).toNat : Nat) : Int) + 1 = l := by omega
      have ep : p - (((l - 1).toNat : Nat) : Int) = p - l + 1 := by omega
      rcases x4 with ⟨y1, y2⟩ | ⟨y1, y2, y3⟩
      · refine ⟨(t, l + 1), ⟨by show 1 ≤ l + 1; omega, by show l + 1 ≤ 17; omega, ?_⟩, by show ((17 : Int) - (l + 1)).toNat < (17 - l).toNat; omega, ?_⟩
        · show t = sm _ (l + 1 - 1).toNat
          rw [es]; unfold sm; rw [el, ep, g3, y2]; omega
        · simp (disch := omega) only [cLt_t, cLt_f, cEq_t, cEq_f, cLtL_t, cLtL_f, cEqL_t, cEqL_f, cR_t, cRL_t, cZ_t, cN_t, cCp_t, rdA_t, ob_e, bd1_e, bd2_e, bd3_e, bd4_e, bd5_e, bd6_e, bd7_e, bd8_e, bd9_e, bd10_e, bd12_e, x1]
      · refine ⟨(t + 1, l + 1), ⟨by show 1 ≤ l + 1; omega, by show l + 1 ≤ 17; omega, ?_⟩, by show ((17 : Int) - (l + 1)).toNat < (17 - l).toNat; omega, ?_⟩
        · show t + 1 = sm _ (l + 1 - 1).toNat
          rw [es]; unfold sm; rw [el, ep, g3, y2]
        · simp (disch := omega) only [cLt_t, cLt_f, cEq_t, cEq_f, cLtL_t, cLtL_f, cEqL_t, cEqL_f, cR_t, cRL_t, cZ_t, cN_t, cCp_t, rdA_t, ob_e, bd1_e, bd2_e, bd3_e, bd4_e, bd5_e, bd6_e, bd7_e, bd8_e, bd9_e, bd10_e, bd12_e, x1]
theorem X8_startsAt_e {sl p : Int} {words starts kat : Int → Int} (h : LM sl words starts kat) (hs : sl ≤ 600) (h1 : 0 ≤ p) (h2 : p < sl) : s_X8_startsAt starts p = some (cf words p) := by
  have main := loopR (fun fu (st : Int × Int) => s_X8_startsAt_4 fu starts p st.1 st.2) (fun st => (17 - st.2).toNat) (fun st => 1 ≤ st.2 ∧ st.2 ≤ 17 ∧ st.1 = sm (fun i => ha words p ((i : Int) + 1)) (st.2 - 1).toNat) (fun r => r = cf words p) ?_ FU (0, 1) ⟨Int.le_refl _, by show (1 : Int) ≤ 17; omega, rfl⟩ (FU_lt (by show ((17 : Int) - 1).toNat < _; omega))
  · obtain ⟨r, e1, e2⟩ := main
    have e1 : s_X8_startsAt_4 FU starts p 0 1 = some r := e1
    unfold s_X8_startsAt
    simp (disch := omega) only [cLt_t, cLt_f, cEq_t, cEq_f, cLtL_t, cLtL_f, cEqL_t, cEqL_f, cR_t, cRL_t, cZ_t, cN_t, cCp_t, rdA_t, ob_e, bd1_e, bd2_e, bd3_e, bd4_e, bd5_e, bd6_e, bd7_e, bd8_e, bd9_e, bd10_e, bd12_e, e1, e2]
  · intro fu ⟨t, l⟩ ⟨g1, g2, g3⟩
    have g1 : 1 ≤ l := g1
    have g2 : l ≤ 17 := g2
    have g3 : t = sm (fun i => ha words p ((i : Int) + 1)) (l - 1).toNat := g3
    simp only [s_X8_startsAt_4_s]
    by_cases hl : 16 < l
    · left
      refine ⟨t, by simp (disch := omega) only [cLt_t, cLt_f, cEq_t, cEq_f, cLtL_t, cLtL_f, cEqL_t, cEqL_f, cR_t, cRL_t, cZ_t, cN_t, cCp_t, rdA_t, ob_e, bd1_e, bd2_e, bd3_e, bd4_e, bd5_e, bd6_e, bd7_e, bd8_e, bd9_e, bd10_e, bd12_e], ?_⟩
      rw [g3, show (l - 1).toNat = 16 by omega]; rfl
    · right
      have x1 := X8_hasAt_e h hs h1 h2 g1 (show l ≤ 16 by omega)
      have hr := ha_rg words p l
      have es : (l + 1 - 1).toNat = (l - 1).toNat + 1 := by omega
      have el : (((l - 1).toNat : Nat) : Int) + 1 = l := by omega
      refine ⟨(t + ha words p l, l + 1), ⟨by show 1 ≤ l + 1; omega, by show l + 1 ≤ 17; omega, ?_⟩, by show ((17 : Int) - (l + 1)).toNat < (17 - l).toNat; omega, ?_⟩
      · show t + ha words p l = sm _ (l + 1 - 1).toNat
        rw [es]; unfold sm; rw [el, g3]
      · by_cases c : ha words p l = 0
        · simp (disch := omega) only [cLt_t, cLt_f, cEq_t, cEq_f, cLtL_t, cLtL_f, cEqL_t, cEqL_f, cR_t, cRL_t, cZ_t, cN_t, cCp_t, rdA_t, ob_e, bd1_e, bd2_e, bd3_e, bd4_e, bd5_e, bd6_e, bd7_e, bd8_e, bd9_e, bd10_e, bd12_e, x1]
          rw [c]
        · simp (disch := omega) only [cLt_t, cLt_f, cEq_t, cEq_f, cLtL_t, cLtL_f, cEqL_t, cEqL_f, cR_t, cRL_t, cZ_t, cN_t, cCp_t, rdA_t, ob_e, bd1_e, bd2_e, bd3_e, bd4_e, bd5_e, bd6_e, bd7_e, bd8_e, bd9_e, bd10_e, bd12_e, x1]
          rw [show ha words p l = 1 by omega]
theorem op_matchCount {gv on sl th : Int} {len bytes wt live str words starts kat : Int → Int} (hK : KW gv len bytes wt live) (hd : DSJ on gv len bytes live) (o1 : 0 ≤ on) (o2 : on ≤ 1) (hs1 : 0 ≤ sl) (hs2 : sl ≤ 600) (hS : RB str 0 600) (hT : TBI on gv len bytes live str sl words) : ∃ r s2 k2, s_X7_matchCount sl words = some r ∧ s_X8_matchCount th gv on sl len bytes live str starts kat = some (r, 0, s2, k2) := by
  obtain ⟨s2, k2, l1, l2⟩ := X8_laysMatches_e (starts := starts) (kat := kat) hK hd o1 o2 hs1 hs2 hS hT
  have A := loopR (fun fu (st : Int × Int) => s_X7_matchCount_4 fu sl words st.1 st.2) (fun st => (sl - st.2).toNat) (fun st => 0 ≤ st.2 ∧ st.2 ≤ sl ∧ st.1 = sm (fun i => cf words (i : Int)) st.2.toNat) (fun r => r = sm (fun i => cf words (i : Int)) sl.toNat) ?_ FU (0, 0) ⟨Int.le_refl _, hs1, rfl⟩ (FU_lt (by show (sl - 0).toNat < _; omega))
  · have B := loopR (fun fu (st : Int × Int) => s_X8_matchCount_13 fu sl s2 st.1 st.2) (fun st => (sl - st.2).toNat) (fun st => 0 ≤ st.2 ∧ st.2 ≤ sl ∧ st.1 = sm (fun i => cf words (i : Int)) st.2.toNat) (fun r => r = sm (fun i => cf words (i : Int)) sl.toNat) ?_ FU (0, 0) ⟨Int.le_refl _, hs1, rfl⟩ (FU_lt (by show (sl - 0).toNat < _; omega))
    · obtain ⟨r, a1, a2⟩ := A
      obtain ⟨r', b1, b2⟩ := B
      have a1 : s_X7_matchCount_4 FU sl words 0 0 = some r := a1
      have b1 : s_X8_matchCount_13 FU sl s2 0 0 = some r' := b1
      have e : r' = r := by rw [a2, b2]
      subst e
      unfold s_X7_matchCount s_X8_matchCount
      exact ⟨r', s2, k2, by simp (disch := omega) only [cLt_t, cLt_f, cEq_t, cEq_f, cLtL_t, cLtL_f, cEqL_t, cEqL_f, cR_t, cRL_t, cZ_t, cN_t, cCp_t, rdA_t, ob_e, bd1_e, bd2_e, bd3_e, bd4_e, bd5_e, bd6_e, bd7_e, bd8_e, bd9_e, bd10_e, bd12_e, a1], by simp (disch := omega) only [cLt_t, cLt_f, cEq_t, cEq_f, cLtL_t, cLtL_f, cEqL_t, cEqL_f, cR_t, cRL_t, cZ_t, cN_t, cCp_t, rdA_t, ob_e, bd1_e, bd2_e, bd3_e, bd4_e, bd5_e, bd6_e, bd7_e, bd8_e, bd9_e, bd10_e, bd12_e, l1, b1]⟩
    · intro fu ⟨t, p⟩ ⟨g1, g2, g3⟩
      have g1 : 0 ≤ p := g1
      have g2 : p ≤ sl := g2
      have g3 : t = sm (fun i => cf words (i : Int)) p.toNat := g3
      simp only [s_X8_matchCount_13_s]
      by_cases h : p < sl
      · right
        have inner := loopR (fun fu (st : Int × Int) => s_X8_matchCount_23 fu s2 st.1 p st.2) (fun st => (17 - st.2).toNat) (fun st => 1 ≤ st.2 ∧ st.2 ≤ 17 ∧ st.1 = t + sm (fun i => ha words p ((i : Int) + 1)) (st.2 - 1).toNat) (fun r => r = t + cf words p) ?_ FU (t, 1) ⟨Int.le_refl _, by show (1 : Int) ≤ 17; omega, by show t = t + 0; omega⟩ (FU_lt (by show ((17 : Int) - 1).toNat < _; omega))
        · obtain ⟨x, e1, e2⟩ := inner
          have e1 : s_X8_matchCount_23 FU s2 t p 1 = some x := e1
          have es : (p + 1).toNat = p.toNat + 1 := by omega
          have ep : ((p.toNat : Nat) : Int) = p := by omega
          refine ⟨(x, p + 1), ⟨by show 0 ≤ p + 1; omega, by show p + 1 ≤ sl; omega, ?_⟩, by show (sl - (p + 1)).toNat < (sl - p).toNat; omega, ?_⟩
          · show x = sm _ (p + 1).toNat
            rw [es]; unfold sm; rw [ep, e2, g3]
          · simp (disch := omega) only [cLt_t, cLt_f, cEq_t, cEq_f, cLtL_t, cLtL_f, cEqL_t, cEqL_f, cR_t, cRL_t, cZ_t, cN_t, cCp_t, rdA_t, ob_e, bd1_e, bd2_e, bd3_e, bd4_e, bd5_e, bd6_e, bd7_e, bd8_e, bd9_e, bd10_e, bd12_e, e1]
        · intro fu ⟨u, l⟩ ⟨f1, f2, f3⟩
          have f1 : 1 ≤ l := f1
          have f2 : l ≤ 17 := f2
          have f3 : u = t + sm (fun i => ha words p ((i : Int) + 1)) (l - 1).toNat := f3
          simp only [s_X8_matchCount_23_s]
          by_cases hl : 16 < l
          · left
            refine ⟨u, by simp (disch := omega) only [cLt_t, cLt_f, cEq_t, cEq_f, cLtL_t, cLtL_f, cEqL_t, cEqL_f, cR_t, cRL_t, cZ_t, cN_t, cCp_t, rdA_t, ob_e, bd1_e, bd2_e, bd3_e, bd4_e, bd5_e, bd6_e, bd7_e, bd8_e, bd9_e, bd10_e, bd12_e], ?_⟩
            rw [f3, show (l - 1).toNat = 16 by omega]; rfl
          · right
            have x1 := X8_hasAt_e l2 hs2 g1 h f1 (show l ≤ 16 by omega)
            have hr := ha_rg words p l
            have es : (l + 1 - 1).toNat = (l - 1).toNat + 1 := by omega
            have el : (((l - 1).toNat : Nat) : Int) + 1 = l := by omega
            refine ⟨(u + ha words p l, l + 1), ⟨by show 1 ≤ l + 1; omega, by show l + 1 ≤ 17; omega, ?_⟩, by show ((17 : Int) - (l + 1)).toNat < (17 - l).toNat; omega, ?_⟩
            · show u + ha words p l = t + sm _ (l + 1 - 1).toNat
              rw [es]; unfold sm; rw [el, f3]; omega
            · by_cases c : ha words p l = 0
              · simp (disch := omega) only [cLt_t, cLt_f, cEq_t, cEq_f, cLtL_t, cLtL_f, cEqL_t, cEqL_f, cR_t, cRL_t, cZ_t, cN_t, cCp_t, rdA_t, ob_e, bd1_e, bd2_e, bd3_e, bd4_e, bd5_e, bd6_e, bd7_e, bd8_e, bd9_e, bd10_e, bd12_e, x1]
                rw [c]
              · simp (disch := omega) only [cLt_t, cLt_f, cEq_t, cEq_f, cLtL_t, cLtL_f, cEqL_t, cEqL_f, cR_t, cRL_t, cZ_t, cN_t, cCp_t, rdA_t, ob_e, bd1_e, bd2_e, bd3_e, bd4_e, bd5_e, bd6_e, bd7_e, bd8_e, bd9_e, bd10_e, bd12_e, x1]
                rw [show ha words p l = 1 by omega]
      · left
        refine ⟨t, by simp (disch := omega) only [cLt_t, cLt_f, cEq_t, cEq_f, cLtL_t, cLtL_f, cEqL_t, cEqL_f, cR_t, cRL_t, cZ_t, cN_t, cCp_t, rdA_t, ob_e, bd1_e, bd2_e, bd3_e, bd4_e, bd5_e, bd6_e, bd7_e, bd8_e, bd9_e, bd10_e, bd12_e], ?_⟩
        rw [g3, show p.toNat = sl.toNat by omega]
  · intro fu ⟨t, p⟩ ⟨g1, g2, g3⟩
    have g1 : 0 ≤ p := g1
    have g2 : p ≤ sl := g2
    have g3 : t = sm (fun i => cf words (i : Int)) p.toNat := g3
    simp only [s_X7_matchCount_4_s]
    by_cases h : p < sl
    · right
      have e1 := X5_countFrom_e (words := words) (p := p) g1 (by omega)
      have es : (p + 1).toNat = p.toNat + 1 := by omega
      have ep : ((p.toNat : Nat) : Int) = p := by omega
      refine ⟨(t + cf words p, p + 1), ⟨by show 0 ≤ p + 1; omega, by show p + 1 ≤ sl; omega, ?_⟩, by show (sl - (p + 1)).toNat < (sl - p).toNat; omega, ?_⟩
      · show t + cf words p = sm _ (p + 1).toNat
        rw [es]; unfold sm; rw [ep, g3]
      · simp (disch := omega) only [cLt_t, cLt_f, cEq_t, cEq_f, cLtL_t, cLtL_f, cEqL_t, cEqL_f, cR_t, cRL_t, cZ_t, cN_t, cCp_t, rdA_t, ob_e, bd1_e, bd2_e, bd3_e, bd4_e, bd5_e, bd6_e, bd7_e, bd8_e, bd9_e, bd10_e, bd12_e, e1]
    · left
      refine ⟨t, by simp (disch := omega) only [cLt_t, cLt_f, cEq_t, cEq_f, cLtL_t, cLtL_f, cEqL_t, cEqL_f, cR_t, cRL_t, cZ_t, cN_t, cCp_t, rdA_t, ob_e, bd1_e, bd2_e, bd3_e, bd4_e, bd5_e, bd6_e, bd7_e, bd8_e, bd9_e, bd10_e, bd12_e], ?_⟩
      rw [g3, show p.toNat = sl.toNat by omega]
/-- the table tells where a live keyword matches -/
theorem at_iff {gv on sl k p : Int} {len bytes wt live str words : Int → Int} (hK : KW gv len bytes wt live) (hd : DSJ on gv len bytes live) (hT : TBI on gv len bytes live str sl words) (hk : LV gv live k) (hp1 : 0 ≤ p) (hp2 : p < 600) : ∃ x, s_X5_at words p (len k) = some x ∧ -1 ≤ x ∧ x ≤ 254 ∧ (x = k ↔ MA on len bytes str sl k p) := by
  have hkk := hK.2.2 k hk.1 hk.2.1
  have hr := mt_rg (words := words) (p := p) (l := len k)
  refine ⟨mt words p (len k), by rw [X5_at_e (by omega) (by omega) (by omega) (by omega), if_pos (by omega)], hr.1, hr.2, fun e => ?_, fun m => (hT p (len k) hp1 hp2 (by omega) (by omega)).eq hd (fun j q => q) hk rfl m⟩
  rcases hT p (len k) hp1 hp2 (by omega) (by omega) with ⟨q, -⟩ | ⟨-, -, -, q⟩
  · have := hk.1; omega
  · rw [e] at q; exact q
theorem op_matchCountOf {gv on sl k th : Int} {len bytes wt live str words : Int → Int} (hK : KW gv len bytes wt live) (hd : DSJ on gv len bytes live) (o1 : 0 ≤ on) (o2 : on ≤ 1) (hs1 : 0 ≤ sl) (hs2 : sl ≤ 600) (hS : RB str 0 600) (hT : TBI on gv len bytes live str sl words) (h3 : -2147483648 ≤ k) (h4 : k < 2147483648) : ∃ r, s_X7_matchCountOf gv len live sl words k = some r ∧ s_X8_matchCountOf th gv on sl len bytes live str k = some (r, 0) := by
  have hg0 := hK.1
  have hg := hK.2.1
  have hlv := fun a b => (hK.2.2 k a b).2.2.2.2.1
  unfold s_X7_matchCountOf s_X8_matchCountOf
  by_cases h : 0 ≤ k ∧ k < gv ∧ live k = 1
  · have hk := hK.2.2 k h.1 h.2.1
    have A := loopR (fun fu (st : Int × Int) => s_X7_matchCountOf_28 fu sl words k (len k) st.1 st.2) (fun st => (sl - st.2).toNat) (fun st => 0 ≤ st.2 ∧ st.2 ≤ sl ∧ st.1 = sm (fun i => ind (MA on len bytes str sl k (i : Int))) st.2.toNat) (fun r => r = sm (fun i => ind (MA on len bytes str sl k (i : Int))) sl.toNat) ?_ FU (0, 0) ⟨Int.le_refl _, hs1, rfl⟩ (FU_lt (by show (sl - 0).toNat < _; omega))
    · have B := loopR (fun fu (st : Int × Int) => s_X8_matchCountOf_20 fu on sl len bytes str k st.1 st.2) (fun st => (sl - st.2).toNat) (fun st => 0 ≤ st.2 ∧ st.2 ≤ sl ∧ st.1 = sm (fun i => ind (MA on len bytes str sl k (i : Int))) st.2.toNat) (fun r => r = sm (fun i => ind (MA on len bytes str sl k (i : Int))) sl.toNat) ?_ FU (0, 0) ⟨Int.le_refl _, hs1, rfl⟩ (FU_lt (by show (sl - 0).toNat < _; omega))
      · obtain ⟨r, a1, a2⟩ := A
        obtain ⟨r', b1, b2⟩ := B
        have a1 : s_X7_matchCountOf_28 FU sl words k (len k) 0 0 = some r := a1
        have b1 : s_X8_matchCountOf_20 FU on sl len bytes str k 0 0 = some r' := b1
        have e : r' = r := by rw [a2, b2]
        subst e
        exact ⟨r', by simp (disch := omega) only [cLt_t, cLt_f, cEq_t, cEq_f, cLtL_t, cLtL_f, cEqL_t, cEqL_f, cR_t, cRL_t, cZ_t, cN_t, cCp_t, rdA_t, ob_e, bd1_e, bd2_e, bd3_e, bd4_e, bd5_e, bd6_e, bd7_e, bd8_e, bd9_e, bd10_e, bd12_e, X3_isAlive_e, if_pos h, X3_lengthOf_e, a1], by simp (disch := omega) only [cLt_t, cLt_f, cEq_t, cEq_f, cLtL_t, cLtL_f, cEqL_t, cEqL_f, cR_t, cRL_t, cZ_t, cN_t, cCp_t, rdA_t, ob_e, bd1_e, bd2_e, bd3_e, bd4_e, bd5_e, bd6_e, bd7_e, bd8_e, bd9_e, bd10_e, bd12_e, X8_isLiveOne_e, if_pos h, b1]⟩
      · intro fu ⟨t, p⟩ ⟨g1, g2, g3⟩
        have g1 : 0 ≤ p := g1
        have g2 : p ≤ sl := g2
        have g3 : t = sm (fun i => ind (MA on len bytes str sl k (i : Int))) p.toNat := g3
        simp only [s_X8_matchCountOf_20_s]
        by_cases hp : p < sl
        · right
          obtain ⟨z, z1, z2⟩ := X8_isInStream_e (on := on) (sl := sl) (k := k) (a := p) (n := len k) (bytes := bytes) (str := str) o1 o2 h.1 (by omega) (by omega) (by omega) hs1 hs2 (by omega) (by omega) (hK.rb h.1 h.2.1 (by omega)) (fun j a b => hS j a (by omega))
          have es : (p + 1).toNat = p.toNat + 1 := by omega
          have ep : ((p.toNat : Nat) : Int) = p := by omega
          rcases z2 with ⟨y1, y2⟩ | ⟨y1, y2⟩
          · refine ⟨(t + 1, p + 1), ⟨by show 0 ≤ p + 1; omega, by show p + 1 ≤ sl; omega, ?_⟩, by show (sl - (p + 1)).toNat < (sl - p).toNat; omega, ?_⟩
            · show t + 1 = sm _ (p + 1).toNat
              rw [es]; unfold sm; rw [ep, g3, ind_t (show MA on len bytes str sl k p from y2)]
            · simp (disch := omega) only [cLt_t, cLt_f, cEq_t, cEq_f, cLtL_t, cLtL_f, cEqL_t, cEqL_f, cR_t, cRL_t, cZ_t, cN_t, cCp_t, rdA_t, ob_e, bd1_e, bd2_e, bd3_e, bd4_e, bd5_e, bd6_e, bd7_e, bd8_e, bd9_e, bd10_e, bd12_e, z1]
          · refine ⟨(t + 0, p + 1), ⟨by show 0 ≤ p + 1; omega, by show p + 1 ≤ sl; omega, ?_⟩, by show (sl - (p + 1)).toNat < (sl - p).toNat; omega, ?_⟩
            · show t + 0 = sm _ (p + 1).toNat
              rw [es]; unfold sm; rw [ep, g3, ind_f (show ¬ MA on len bytes str sl k p from y2)]
            · simp (disch := omega) only [cLt_t, cLt_f, cEq_t, cEq_f, cLtL_t, cLtL_f, cEqL_t, cEqL_f, cR_t, cRL_t, cZ_t, cN_t, cCp_t, rdA_t, ob_e, bd1_e, bd2_e, bd3_e, bd4_e, bd5_e, bd6_e, bd7_e, bd8_e, bd9_e, bd10_e, bd12_e, z1]
        · left
          refine ⟨t, by simp (disch := omega) only [cLt_t, cLt_f, cEq_t, cEq_f, cLtL_t, cLtL_f, cEqL_t, cEqL_f, cR_t, cRL_t, cZ_t, cN_t, cCp_t, rdA_t, ob_e, bd1_e, bd2_e, bd3_e, bd4_e, bd5_e, bd6_e, bd7_e, bd8_e, bd9_e, bd10_e, bd12_e], ?_⟩
          rw [g3, show p.toNat = sl.toNat by omega]
    · intro fu ⟨t, p⟩ ⟨g1, g2, g3⟩
      have g1 : 0 ≤ p := g1
      have g2 : p ≤ sl := g2
      have g3 : t = sm (fun i => ind (MA on len bytes str sl k (i : Int))) p.toNat := g3
      simp only [s_X7_matchCountOf_28_s]
      by_cases hp : p < sl
      · right
        obtain ⟨x, x1, x2, x3, x4⟩ := at_iff (k := k) (p := p) hK hd hT h g1 (by omega)
        have es : (p + 1).toNat = p.toNat + 1 := by omega
        have ep : ((p.toNat : Nat) : Int) = p := by omega
        by_cases c : x = k
        · refine ⟨(t + 1, p + 1), ⟨by show 0 ≤ p + 1; omega, by show p + 1 ≤ sl; omega, ?_⟩, by show (sl - (p + 1)).toNat < (sl - p).toNat; omega, ?_⟩
          · show t + 1 = sm _ (p + 1).toNat
            rw [es]; unfold sm; rw [ep, g3, ind_t (x4.mp c)]
          · simp (disch := omega) only [cLt_t, cLt_f, cEq_t, cEq_f, cLtL_t, cLtL_f, cEqL_t, cEqL_f, cR_t, cRL_t, cZ_t, cN_t, cCp_t, rdA_t, ob_e, bd1_e, bd2_e, bd3_e, bd4_e, bd5_e, bd6_e, bd7_e, bd8_e, bd9_e, bd10_e, bd12_e, x1]
        · refine ⟨(t, p + 1), ⟨by show 0 ≤ p + 1; omega, by show p + 1 ≤ sl; omega, ?_⟩, by show (sl - (p + 1)).toNat < (sl - p).toNat; omega, ?_⟩
          · show t = sm _ (p + 1).toNat
            rw [es]; unfold sm; rw [ep, g3, ind_f (fun q => c (x4.mpr q))]; omega
          · simp (disch := omega) only [cLt_t, cLt_f, cEq_t, cEq_f, cLtL_t, cLtL_f, cEqL_t, cEqL_f, cR_t, cRL_t, cZ_t, cN_t, cCp_t, rdA_t, ob_e, bd1_e, bd2_e, bd3_e, bd4_e, bd5_e, bd6_e, bd7_e, bd8_e, bd9_e, bd10_e, bd12_e, x1]
      · left
        refine ⟨t, by simp (disch := omega) only [cLt_t, cLt_f, cEq_t, cEq_f, cLtL_t, cLtL_f, cEqL_t, cEqL_f, cR_t, cRL_t, cZ_t, cN_t, cCp_t, rdA_t, ob_e, bd1_e, bd2_e, bd3_e, bd4_e, bd5_e, bd6_e, bd7_e, bd8_e, bd9_e, bd10_e, bd12_e], ?_⟩
        rw [g3, show p.toNat = sl.toNat by omega]
  · exact ⟨-2, by simp (disch := omega) only [cLt_t, cLt_f, cEq_t, cEq_f, cLtL_t, cLtL_f, cEqL_t, cEqL_f, cR_t, cRL_t, cZ_t, cN_t, cCp_t, rdA_t, ob_e, bd1_e, bd2_e, bd3_e, bd4_e, bd5_e, bd6_e, bd7_e, bd8_e, bd9_e, bd10_e, bd12_e, X3_isAlive_e, if_neg h], by simp (disch := omega) only [cLt_t, cLt_f, cEq_t, cEq_f, cLtL_t, cLtL_f, cEqL_t, cEqL_f, cR_t, cRL_t, cZ_t, cN_t, cCp_t, rdA_t, ob_e, bd1_e, bd2_e, bd3_e, bd4_e, bd5_e, bd6_e, bd7_e, bd8_e, bd9_e, bd10_e, bd12_e, X8_isLiveOne_e, if_neg h]⟩
/-- the first place from a on with a property -/
def NF (P : Int → Prop) (a n r : Int) : Prop := (r = -1 ∧ ∀ q, a ≤ q → q < n → ¬ P q) ∨ (a ≤ r ∧ r < n ∧ P r ∧ ∀ q, a ≤ q → q < r → ¬ P q)
theorem NF.uniq {P : Int → Prop} {a n r s : Int} (ha : 0 ≤ a) (h : NF P a n r) (g : NF P a n s) : r = s := by
  rcases h with ⟨h1, h2⟩ | ⟨h1, h2, h3, h4⟩ <;> rcases g with ⟨g1, g2⟩ | ⟨g1, g2, g3, g4⟩
  · omega
  · exact absurd g3 (h2 s g1 g2)
  · exact absurd h3 (g2 r h1 h2)
  · rcases Int.lt_trichotomy r s with q | q | q
    · exact absurd h3 (g4 r h1 q)
    · exact q
    · exact absurd g3 (h4 s g1 q)
theorem op_nextMatch {gv on sl k a th : Int} {len bytes wt live str words : Int → Int} (hK : KW gv len bytes wt live) (hd : DSJ on gv len bytes live) (o1 : 0 ≤ on) (o2 : on ≤ 1) (hs1 : 0 ≤ sl) (hs2 : sl ≤ 600) (hS : RB str 0 600) (hT : TBI on gv len bytes live str sl words) (h3 : -2147483648 ≤ k) (h4 : k < 2147483648) (h5 : -2147483648 ≤ a) (h6 : a < 2147483648) : ∃ r, s_X7_nextMatch gv len live sl words k a = some r ∧ s_X8_nextMatch th gv on sl len bytes live str k a = some (r, 0) := by
  have hg0 := hK.1
  have hg := hK.2.1
  have hlv := fun a b => (hK.2.2 k a b).2.2.2.2.1
  unfold s_X7_nextMatch s_X8_nextMatch
  by_cases h : 0 ≤ k ∧ k < gv ∧ live k = 1
  · have hk := hK.2.2 k h.1 h.2.1
    by_cases hz : a < 0
    · exact ⟨-3, by simp (disch := omega) only [cLt_t, cLt_f, cEq_t, cEq_f, cLtL_t, cLtL_f, cEqL_t, cEqL_f, cR_t, cRL_t, cZ_t, cN_t, cCp_t, rdA_t, ob_e, bd1_e, bd2_e, bd3_e, bd4_e, bd5_e, bd6_e, bd7_e, bd8_e, bd9_e, bd10_e, bd12_e, X3_isAlive_e, if_pos h], by simp (disch := omega) only [cLt_t, cLt_f, cEq_t, cEq_f, cLtL_t, cLtL_f, cEqL_t, cEqL_f, cR_t, cRL_t, cZ_t, cN_t, cCp_t, rdA_t, ob_e, bd1_e, bd2_e, bd3_e, bd4_e, bd5_e, bd6_e, bd7_e, bd8_e, bd9_e, bd10_e, bd12_e, X8_isLiveOne_e, if_pos h]⟩
    · have A := loopR (fun fu p => s_X7_nextMatch_33 fu sl words k (len k) p) (fun p => (sl - p).toNat) (fun p => a ≤ p ∧ (p = a ∨ p ≤ sl) ∧ ∀ q, a ≤ q → q < p → ¬ MA on len bytes str sl k q) (fun r => NF (MA on len bytes str sl k) a sl r) ?_ FU a ⟨Int.le_refl _, Or.inl rfl, fun q x y => by omega⟩ (FU_lt (by omega))
      · have B := loopR (fun fu p => s_X8_nextMatch_25 fu 0 on sl len bytes str k p) (fun p => (sl - p).toNat) (fun p => a ≤ p ∧ (p = a ∨ p ≤ sl) ∧ ∀ q, a ≤ q → q < p → ¬ MA on len bytes str sl k q) (fun r => r.2 = 0 ∧ NF (MA on len bytes str sl k) a sl r.1) ?_ FU a ⟨Int.le_refl _, Or.inl rfl, fun q x y => by omega⟩ (FU_lt (by omega))
        · obtain ⟨r, a1, a2⟩ := A
          obtain ⟨⟨r', z⟩, b1, b2, b3⟩ := B
          have a1 : s_X7_nextMatch_33 FU sl words k (len k) a = some r := a1
          have b1 : s_X8_nextMatch_25 FU 0 on sl len bytes str k a = some (r', z) := b1
          have b2 : z = 0 := b2
          have b3 : NF (MA on len bytes str sl k) a sl r' := b3
          have e := a2.uniq (by omega) b3
          subst e
          subst b2
          exact ⟨r, by simp (disch := omega) only [cLt_t, cLt_f, cEq_t, cEq_f, cLtL_t, cLtL_f, cEqL_t, cEqL_f, cR_t, cRL_t, cZ_t, cN_t, cCp_t, rdA_t, ob_e, bd1_e, bd2_e, bd3_e, bd4_e, bd5_e, bd6_e, bd7_e, bd8_e, bd9_e, bd10_e, bd12_e, X3_isAlive_e, if_pos h, X3_lengthOf_e, a1], by simp (disch := omega) only [cLt_t, cLt_f, cEq_t, cEq_f, cLtL_t, cLtL_f, cEqL_t, cEqL_f, cR_t, cRL_t, cZ_t, cN_t, cCp_t, rdA_t, ob_e, bd1_e, bd2_e, bd3_e, bd4_e, bd5_e, bd6_e, bd7_e, bd8_e, bd9_e, bd10_e, bd12_e, X8_isLiveOne_e, if_pos h, b1]⟩
        · intro fu p ⟨g1, g2, g3⟩
          simp only [s_X8_nextMatch_25_s]
          by_cases hp : p < sl
          · obtain ⟨z, z1, z2⟩ := X8_isInStream_e (on := on) (sl := sl) (k := k) (a := p) (n := len k) (bytes := bytes) (str := str) o1 o2 h.1 (by omega) (by omega) (by omega) hs1 hs2 (by omega) (by omega) (hK.rb h.1 h.2.1 (by omega)) (fun j a b => hS j a (by omega))
            rcases z2 with ⟨y1, y2⟩ | ⟨y1, y2⟩
            · left
              exact ⟨(p, 0), by simp (disch := omega) only [cLt_t, cLt_f, cEq_t, cEq_f, cLtL_t, cLtL_f, cEqL_t, cEqL_f, cR_t, cRL_t, cZ_t, cN_t, cCp_t, rdA_t, ob_e, bd1_e, bd2_e, bd3_e, bd4_e, bd5_e, bd6_e, bd7_e, bd8_e, bd9_e, bd10_e, bd12_e, z1], rfl, Or.inr ⟨g1, hp, y2, g3⟩⟩
            · right
              refine ⟨p + 1, ⟨by omega, Or.inr (by omega), fun q x y => ?_⟩, by omega, by simp (disch := omega) only [cLt_t, cLt_f, cEq_t, cEq_f, cLtL_t, cLtL_f, cEqL_t, cEqL_f, cR_t, cRL_t, cZ_t, cN_t, cCp_t, rdA_t, ob_e, bd1_e, bd2_e, bd3_e, bd4_e, bd5_e, bd6_e, bd7_e, bd8_e, bd9_e, bd10_e, bd12_e, z1]⟩
              by_cases e : q = p
              · subst e; exact y2
              · exact g3 q x (by omega)
          · left
            refine ⟨(-1, 0), ?_, rfl, Or.inl ⟨rfl, fun q x y => g3 q x (by omega)⟩⟩
            simp (disch := omega) only [cLt_t, cLt_f, cEq_t, cEq_f, cLtL_t, cLtL_f, cEqL_t, cEqL_f, cR_t, cRL_t, cZ_t, cN_t, cCp_t, rdA_t, ob_e, bd1_e, bd2_e, bd3_e, bd4_e, bd5_e, bd6_e, bd7_e, bd8_e, bd9_e, bd10_e, bd12_e]
      · intro fu p ⟨g1, g2, g3⟩
        simp only [s_X7_nextMatch_33_s]
        by_cases hp : p < sl
        · obtain ⟨x, x1, x2, x3, x4⟩ := at_iff (k := k) (p := p) hK hd hT h (by omega) (by omega)
          by_cases c : x = k
          · left
            exact ⟨p, by simp (disch := omega) only [cLt_t, cLt_f, cEq_t, cEq_f, cLtL_t, cLtL_f, cEqL_t, cEqL_f, cR_t, cRL_t, cZ_t, cN_t, cCp_t, rdA_t, ob_e, bd1_e, bd2_e, bd3_e, bd4_e, bd5_e, bd6_e, bd7_e, bd8_e, bd9_e, bd10_e, bd12_e, x1], Or.inr ⟨g1, hp, x4.mp c, g3⟩⟩
          · right
            refine ⟨p + 1, ⟨by omega, Or.inr (by omega), fun q y z => ?_⟩, by omega, by simp (disch := omega) only [cLt_t, cLt_f, cEq_t, cEq_f, cLtL_t, cLtL_f, cEqL_t, cEqL_f, cR_t, cRL_t, cZ_t, cN_t, cCp_t, rdA_t, ob_e, bd1_e, bd2_e, bd3_e, bd4_e, bd5_e, bd6_e, bd7_e, bd8_e, bd9_e, bd10_e, bd12_e, x1]⟩
            by_cases e : q = p
            · subst e; exact fun w => c (x4.mpr w)
            · exact g3 q y (by omega)
        · left
          refine ⟨-1, ?_, Or.inl ⟨rfl, fun q x y => g3 q x (by omega)⟩⟩
          simp (disch := omega) only [cLt_t, cLt_f, cEq_t, cEq_f, cLtL_t, cLtL_f, cEqL_t, cEqL_f, cR_t, cRL_t, cZ_t, cN_t, cCp_t, rdA_t, ob_e, bd1_e, bd2_e, bd3_e, bd4_e, bd5_e, bd6_e, bd7_e, bd8_e, bd9_e, bd10_e, bd12_e]
  · exact ⟨-2, by simp (disch := omega) only [cLt_t, cLt_f, cEq_t, cEq_f, cLtL_t, cLtL_f, cEqL_t, cEqL_f, cR_t, cRL_t, cZ_t, cN_t, cCp_t, rdA_t, ob_e, bd1_e, bd2_e, bd3_e, bd4_e, bd5_e, bd6_e, bd7_e, bd8_e, bd9_e, bd10_e, bd12_e, X3_isAlive_e, if_neg h], by simp (disch := omega) only [cLt_t, cLt_f, cEq_t, cEq_f, cLtL_t, cLtL_f, cEqL_t, cEqL_f, cR_t, cRL_t, cZ_t, cN_t, cCp_t, rdA_t, ob_e, bd1_e, bd2_e, bd3_e, bd4_e, bd5_e, bd6_e, bd7_e, bd8_e, bd9_e, bd10_e, bd12_e, X8_isLiveOne_e, if_neg h]⟩
