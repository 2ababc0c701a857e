/-! ===== mismatches ===== -/
def mmc (on : Int) (bytes str : Int → Int) (k p : Int) : Nat → Int
  | 0 => 0
  | n + 1 => mmc on bytes str k p n + (if fo on (bytes (16 * k + (n : Int))) = fo on (str (p + (n : Int))) then 0 else 1)
theorem mmc_rg (on : Int) (bytes str : Int → Int) (k p : Int) (n : Nat) : 0 ≤ mmc on bytes str k p n ∧ mmc on bytes str k p n ≤ n := by
  induction n with
  | zero => exact ⟨Int.le_refl _, Int.le_refl _⟩
  | succ n ih => unfold mmc; split <;> omega
theorem X3_mismatchesAt_e {gv on k p sl : Int} {len bytes wt live str : Int → Int} (hK : KW gv len bytes wt live) (o1 : 0 ≤ on) (o2 : on ≤ 1) (hk1 : 0 ≤ k) (hk2 : k < gv) (hs2 : sl ≤ 600) (hS : RB str 0 600) (hp : 0 ≤ p) (hp2 : p + len k ≤ sl) : s_X3_mismatchesAt 600 gv on bytes len sl str k p = some (mmc on bytes str k p (len k).toNat) := by
  have hg := hK.2.1
  have hk := hK.2.2 k hk1 hk2
  have := loopR (fun fu (st : Int × Int) => s_X3_mismatchesAt_6 600 fu gv on bytes len sl str k p st.1 st.2) (fun st => (len k - st.2).toNat) (fun st => 0 ≤ st.2 ∧ st.2 ≤ len k ∧ st.1 = mmc on bytes str k p st.2.toNat) (fun r => r = mmc on bytes str k p (len k).toNat) ?_ FU (0, 0) ⟨Int.le_refl _, by show 0 ≤ len k; omega, rfl⟩ (FU_lt (by show (len k - 0).toNat < _; omega))
  · obtain ⟨r, e1, e2⟩ := this
    have e1 : s_X3_mismatchesAt_6 600 FU gv on bytes len sl str k p 0 0 = some r := e1
    unfold s_X3_mismatchesAt
    simp (disch := omega) only [cLt_t, cLt_f, cEq_t, cEq_f, cLtL_t, cLtL_f, cEqL_t, cEqL_f, cR_t, cRL_t, cZ_t, cN_t, cCp_t, rdA_t, ob_e, bd1_e, bd2_e, bd3_e, bd4_e, bd5_e, bd6_e, bd7_e, bd8_e, bd9_e, bd10_e, bd12_e, e1, e2]
  · intro fu ⟨t, i⟩ ⟨g1, g2, g3⟩
    have g1 : 0 ≤ i := g1
    have g2 : i ≤ len k := g2
    have g3 : t = mmc on bytes str k p i.toNat := g3
    simp only [s_X3_mismatchesAt_6_s]
    by_cases h : i < len k
    · right
      have b1 := hk.2.2.2.2.2 i g1 h
      have b2 := hS (p + i) (by omega) (by omega)
      rw [Int.zero_add] at b2
      have q1 := fo_rg (on := on) (c := bytes (16 * k + i)) (by omega) (by omega)
      have q2 := fo_rg (on := on) (c := str (p + i)) (by omega) (by omega)
      have ei : ((i.toNat : Nat) : Int) = i := by omega
      have es : (i + 1).toNat = i.toNat + 1 := by omega
      by_cases he : fo on (bytes (16 * k + i)) = fo on (str (p + i))
      · refine ⟨(t, i + 1), ⟨by show 0 ≤ i + 1; omega, by show i + 1 ≤ len k; omega, ?_⟩, by show (len k - (i + 1)).toNat < (len k - i).toNat; omega, ?_⟩
        · show t = mmc on bytes str k p (i + 1).toNat
          rw [es]; unfold mmc; rw [ei, if_pos he, g3]; omega
        · simp (disch := omega) only [cLt_t, cLt_f, cEq_t, cEq_f, cLtL_t, cLtL_f, cEqL_t, cEqL_f, cR_t, cRL_t, cZ_t, cN_t, cCp_t, rdA_t, ob_e, bd1_e, bd2_e, bd3_e, bd4_e, bd5_e, bd6_e, bd7_e, bd8_e, bd9_e, bd10_e, bd12_e, X3_lengthOf_e, X3_byteOf_e, if_pos (show 0 ≤ i ∧ i < len k by omega), X2_fold_e, X1_at_e, if_pos (show 0 ≤ p + i ∧ p + i < sl by omega)]
      · refine ⟨(t + 1, i + 1), ⟨by show 0 ≤ i + 1; omega, by show i + 1 ≤ len k; omega, ?_⟩, by show (len k - (i + 1)).toNat < (len k - i).toNat; omega, ?_⟩
        · show t + 1 = mmc on bytes str k p (i + 1).toNat
          rw [es]; unfold mmc; rw [ei, if_neg he, g3]
        · simp (disch := omega) only [cLt_t, cLt_f, cEq_t, cEq_f, cLtL_t, cLtL_f, cEqL_t, cEqL_f, cR_t, cRL_t, cZ_t, cN_t, cCp_t, rdA_t, ob_e, bd1_e, bd2_e, bd3_e, bd4_e, bd5_e, bd6_e, bd7_e, bd8_e, bd9_e, bd10_e, bd12_e, X3_lengthOf_e, X3_byteOf_e, if_pos (show 0 ≤ i ∧ i < len k by omega), X2_fold_e, X1_at_e, if_pos (show 0 ≤ p + i ∧ p + i < sl by omega)]
    · left
      refine ⟨t, ?_, ?_⟩
      · simp (disch := omega) only [cLt_t, cLt_f, cEq_t, cEq_f, cLtL_t, cLtL_f, cEqL_t, cEqL_f, cR_t, cRL_t, cZ_t, cN_t, cCp_t, rdA_t, ob_e, bd1_e, bd2_e, bd3_e, bd4_e, bd5_e, bd6_e, bd7_e, bd8_e, bd9_e, bd10_e, bd12_e, X3_lengthOf_e]
      · rw [g3, show i.toNat = (len k).toNat by omega]
theorem X8_misses_e {gv on k p : Int} {len bytes wt live str : Int → Int} (hK : KW gv len bytes wt live) (o1 : 0 ≤ on) (o2 : on ≤ 1) (hk1 : 0 ≤ k) (hk2 : k < gv) (hS : RB str 0 600) (hp : 0 ≤ p) (hp2 : p + len k ≤ 600) : s_X8_misses on len bytes str k p = some (mmc on bytes str k p (len k).toNat) := by
  have hg := hK.2.1
  have hk := hK.2.2 k hk1 hk2
  have := loopR (fun fu (st : Int × Int) => s_X8_misses_5 fu on len bytes str k p st.1 st.2) (fun st => (len k - st.2).toNat) (fun st => 0 ≤ st.2 ∧ st.2 ≤ len k ∧ st.1 = mmc on bytes str k p st.2.toNat) (fun r => r = mmc on bytes str k p (len k).toNat) ?_ FU (0, 0) ⟨Int.le_refl _, by show 0 ≤ len k; omega, rfl⟩ (FU_lt (by show (len k - 0).toNat < _; omega))
  · obtain ⟨r, e1, e2⟩ := this
    have e1 : s_X8_misses_5 FU on len bytes str k p 0 0 = some r := e1
    unfold s_X8_misses
    simp (disch := omega) only [cLt_t, cLt_f, cEq_t, cEq_f, cLtL_t, cLtL_f, cEqL_t, cEqL_f, cR_t, cRL_t, cZ_t, cN_t, cCp_t, rdA_t, ob_e, bd1_e, bd2_e, bd3_e, bd4_e, bd5_e, bd6_e, bd7_e, bd8_e, bd9_e, bd10_e, bd12_e, e1, e2]
  · intro fu ⟨t, i⟩ ⟨g1, g2, g3⟩
    have g1 : 0 ≤ i := g1
    have g2 : i ≤ len k := g2
    have g3 : t = mmc on bytes str k p i.toNat := g3
    simp only [s_X8_misses_5_s]
    by_cases h : i < len k
    · right
      have b1 := hk.2.2.2.2.2 i g1 h
      have b2 := hS (p + i) (by omega) (by omega)
      rw [Int.zero_add] at b2
      have ei : ((i.toNat : Nat) : Int) = i := by omega
      have es : (i + 1).toNat = i.toNat + 1 := by omega
      by_cases he : fo on (bytes (16 * k + i)) = fo on (str (p + i))
      · refine ⟨(t + 0, i + 1), ⟨by show 0 ≤ i + 1; omega, by show i + 1 ≤ len k; omega, ?_⟩, by show (len k - (i + 1)).toNat < (len k - i).toNat; omega, ?_⟩
        · show t + 0 = mmc on bytes str k p (i + 1).toNat
          rw [es]; unfold mmc; rw [ei, if_pos he, g3]
        · simp (disch := omega) only [cLt_t, cLt_f, cEq_t, cEq_f, cLtL_t, cLtL_f, cEqL_t, cEqL_f, cR_t, cRL_t, cZ_t, cN_t, cCp_t, rdA_t, ob_e, bd1_e, bd2_e, bd3_e, bd4_e, bd5_e, bd6_e, bd7_e, bd8_e, bd9_e, bd10_e, bd12_e, X8_byteOf_e, X8_like_e, if_pos he]
      · refine ⟨(t + 1, i + 1), ⟨by show 0 ≤ i + 1; omega, by show i + 1 ≤ len k; omega, ?_⟩, by show (len k - (i + 1)).toNat < (len k - i).toNat; omega, ?_⟩
        · show t + 1 = mmc on bytes str k p (i + 1).toNat
          rw [es]; unfold mmc; rw [ei, if_neg he, g3]
        · simp (disch := omega) only [cLt_t, cLt_f, cEq_t, cEq_f, cLtL_t, cLtL_f, cEqL_t, cEqL_f, cR_t, cRL_t, cZ_t, cN_t, cCp_t, rdA_t, ob_e, bd1_e, bd2_e, bd3_e, bd4_e, bd5_e, bd6_e, bd7_e, bd8_e, bd9_e, bd10_e, bd12_e, X8_byteOf_e, X8_like_e, if_neg he]
    · left
      refine ⟨t, ?_, ?_⟩
      · simp (disch := omega) only [cLt_t, cLt_f, cEq_t, cEq_f, cLtL_t, cLtL_f, cEqL_t, cEqL_f, cR_t, cRL_t, cZ_t, cN_t, cCp_t, rdA_t, ob_e, bd1_e, bd2_e, bd3_e, bd4_e, bd5_e, bd6_e, bd7_e, bd8_e, bd9_e, bd10_e, bd12_e]
      · rw [g3, show i.toNat = (len k).toNat by omega]
theorem op_nearMatchCount {gv on k m sl th : Int} {len bytes wt live str : Int → Int} (hK : KW gv len bytes wt live) (o1 : 0 ≤ on) (o2 : on ≤ 1) (hs1 : 0 ≤ sl) (hs2 : sl ≤ 600) (hS : RB str 0 600) (h3 : -2147483648 ≤ k) (h4 : k < 2147483648) (h5 : -2147483648 ≤ m) (h6 : m < 2147483648) : ∃ r, s_X7_nearMatchCount on gv bytes len live sl str k m = some r ∧ s_X8_nearMatchCount th gv on sl len bytes live str k m = some (r, 0) := by
  have hg0 := hK.1
  have hg := hK.2.1
  have hlv := fun a b => (hK.2.2 k a b).2.2.2.2.1
  unfold s_X7_nearMatchCount s_X8_nearMatchCount
  by_cases h : 0 ≤ k ∧ k < gv ∧ live k = 1
  · have hk := hK.2.2 k h.1 h.2.1
    by_cases hm : 0 ≤ m ∧ m ≤ 3
    · have A := loopR (fun fu (st : Int × Int) => s_X7_nearMatchCount_49 fu on gv bytes len sl str k m st.1 (sl - len k) st.2) (fun st => (1000 - st.2).toNat) (fun st => 0 ≤ st.2 ∧ st.2 ≤ 601 ∧ (st.2 = 0 ∨ st.2 ≤ sl - len k + 1) ∧ st.1 = sm (fun p => if mmc on bytes str k (p : Int) (len k).toNat ≤ m then 1 else 0) st.2.toNat) (fun r => r = sm (fun p => if mmc on bytes str k (p : Int) (len k).toNat ≤ m then 1 else 0) (sl - len k + 1).toNat) ?_ FU (0, 0) ⟨Int.le_refl _, by show (0 : Int) ≤ 601; omega, Or.inl rfl, rfl⟩ (FU_lt (by show ((1000 : Int) - 0).toNat < _; omega))
      · have B := loopR (fun fu (st : Int × Int) => s_X8_nearMatchCount_36 fu on sl len bytes str k m st.1 st.2) (fun st => (1000 - st.2).toNat) (fun st => 0 ≤ st.2 ∧ st.2 ≤ 601 ∧ (st.2 = 0 ∨ st.2 ≤ sl - len k + 1) ∧ st.1 = sm (fun p => if mmc on bytes str k (p : Int) (len k).toNat ≤ m then 1 else 0) st.2.toNat) (fun r => r = sm (fun p => if mmc on bytes str k (p : Int) (len k).toNat ≤ m then 1 else 0) (sl - len k + 1).toNat) ?_ FU (0, 0) ⟨Int.le_refl _, by show (0 : Int) ≤ 601; omega, Or.inl rfl, rfl⟩ (FU_lt (by show ((1000 : Int) - 0).toNat < _; omega))
        · obtain ⟨r, a1, a2⟩ := A
          obtain ⟨r', b1, b2⟩ := B
          have a1 : s_X7_nearMatchCount_49 FU on gv bytes len sl str k m 0 (sl - len k) 0 = some r := a1
          have b1 : s_X8_nearMatchCount_36 FU on sl len bytes str k m 0 0 = some r' := b1
          have e : r' = r := by rw [a2, b2]
          subst e
          exact ⟨r', by simp (disch := omega) only [cLt_t, cLt_f, cEq_t, cEq_f, cLtL_t, cLtL_f, cEqL_t, cEqL_f, cR_t, cRL_t, cZ_t, cN_t, cCp_t, rdA_t, ob_e, bd1_e, bd2_e, bd3_e, bd4_e, bd5_e, bd6_e, bd7_e, bd8_e, bd9_e, bd10_e, bd12_e, X3_isAlive_e, if_pos h, X3_lengthOf_e, a1], by simp (disch := omega) only [cLt_t, cLt_f, cEq_t, cEq_f, cLtL_t, cLtL_f, cEqL_t, cEqL_f, cR_t, cRL_t, cZ_t, cN_t, cCp_t, rdA_t, ob_e, bd1_e, bd2_e, bd3_e, bd4_e, bd5_e, bd6_e, bd7_e, bd8_e, bd9_e, bd10_e, bd12_e, X8_isLiveOne_e, if_pos h, X8_isIn_e, if_pos hm, b1]⟩
        · intro fu ⟨t, p⟩ ⟨g1, g2, g3, g4⟩
          have g1 : 0 ≤ p := g1
          have g2 : p ≤ 601 := g2
          have g3 : p = 0 ∨ p ≤ sl - len k + 1 := g3
          have g4 : t = sm (fun p => if mmc on bytes str k (p : Int) (len k).toNat ≤ m then 1 else 0) p.toNat := g4
          simp only [s_X8_nearMatchCount_36_s]
          by_cases c1 : sl < p + len k
          · left
            refine ⟨t, by simp (disch := omega) only [cLt_t, cLt_f, cEq_t, cEq_f, cLtL_t, cLtL_f, cEqL_t, cEqL_f, cR_t, cRL_t, cZ_t, cN_t, cCp_t, rdA_t, ob_e, bd1_e, bd2_e, bd3_e, bd4_e, bd5_e, bd6_e, bd7_e, bd8_e, bd9_e, bd10_e, bd12_e], ?_⟩
            rw [g4, show p.toNat = (sl - len k + 1).toNat by omega]
          · right
            have e1 := X8_misses_e (p := p) hK o1 o2 h.1 h.2.1 hS g1 (by omega)
            have mr := mmc_rg on bytes str k p (len k).toNat
            have es : (p + 1).toNat = p.toNat + 1 := by omega
            have ep : ((p.toNat : Nat) : Int) = p := by omega
            by_cases c2 : m < mmc on bytes str k p (len k).toNat
            · refine ⟨(t + 0, p + 1), ⟨by show 0 ≤ p + 1; omega, by show p + 1 ≤ 601; omega, Or.inr (by show p + 1 ≤ sl - len k + 1; omega), ?_⟩, by show ((1000 : Int) - (p + 1)).toNat < (1000 - p).toNat; omega, ?_⟩
              · show t + 0 = sm _ (p + 1).toNat
                rw [es]; unfold sm; rw [ep, if_neg (by omega), g4]
              · simp (disch := omega) only [cLt_t, cLt_f, cEq_t, cEq_f, cLtL_t, cLtL_f, cEqL_t, cEqL_f, cR_t, cRL_t, cZ_t, cN_t, cCp_t, rdA_t, ob_e, bd1_e, bd2_e, bd3_e, bd4_e, bd5_e, bd6_e, bd7_e, bd8_e, bd9_e, bd10_e, bd12_e, e1]
            · refine ⟨(t + 1, p + 1), ⟨by show 0 ≤ p + 1; omega, by show p + 1 ≤ 601; omega, Or.inr (by show p + 1 ≤ sl - len k + 1; omega), ?_⟩, by show ((1000 : Int) - (p + 1)).toNat < (1000 - p).toNat; omega, ?_⟩
              · show t + 1 = sm _ (p + 1).toNat
                rw [es]; unfold sm; rw [ep, if_pos (by omega), g4]
              · simp (disch := omega) only [cLt_t, cLt_f, cEq_t, cEq_f, cLtL_t, cLtL_f, cEqL_t, cEqL_f, cR_t, cRL_t, cZ_t, cN_t, cCp_t, rdA_t, ob_e, bd1_e, bd2_e, bd3_e, bd4_e, bd5_e, bd6_e, bd7_e, bd8_e, bd9_e, bd10_e, bd12_e, e1]
      · intro fu ⟨t, p⟩ ⟨g1, g2, g3, g4⟩
        have g1 : 0 ≤ p := g1
        have g2 : p ≤ 601 := g2
        have g3 : p = 0 ∨ p ≤ sl - len k + 1 := g3
        have g4 : t = sm (fun p => if mmc on bytes str k (p : Int) (len k).toNat ≤ m then 1 else 0) p.toNat := g4
        simp only [s_X7_nearMatchCount_49_s]
        by_cases c1 : sl - len k < p
        · left
          refine ⟨t, by simp (disch := omega) only [cLt_t, cLt_f, cEq_t, cEq_f, cLtL_t, cLtL_f, cEqL_t, cEqL_f, cR_t, cRL_t, cZ_t, cN_t, cCp_t, rdA_t, ob_e, bd1_e, bd2_e, bd3_e, bd4_e, bd5_e, bd6_e, bd7_e, bd8_e, bd9_e, bd10_e, bd12_e], ?_⟩
          rw [g4, show p.toNat = (sl - len k + 1).toNat by omega]
        · right
          have e1 := X3_mismatchesAt_e (p := p) (sl := sl) hK o1 o2 h.1 h.2.1 hs2 hS g1 (by omega)
          have mr := mmc_rg on bytes str k p (len k).toNat
          have es : (p + 1).toNat = p.toNat + 1 := by omega
          have ep : ((p.toNat : Nat) : Int) = p := by omega
          by_cases c2 : m < mmc on bytes str k p (len k).toNat
          · refine ⟨(t, p + 1), ⟨by show 0 ≤ p + 1; omega, by show p + 1 ≤ 601; omega, Or.inr (by show p + 1 ≤ sl - len k + 1; omega), ?_⟩, by show ((1000 : Int) - (p + 1)).toNat < (1000 - p).toNat; omega, ?_⟩
            · show t = sm _ (p + 1).toNat
              rw [es]; unfold sm; rw [ep, if_neg (by omega), g4]; omega
            · simp (disch := omega) only [cLt_t, cLt_f, cEq_t, cEq_f, cLtL_t, cLtL_f, cEqL_t, cEqL_f, cR_t, cRL_t, cZ_t, cN_t, cCp_t, rdA_t, ob_e, bd1_e, bd2_e, bd3_e, bd4_e, bd5_e, bd6_e, bd7_e, bd8_e, bd9_e, bd10_e, bd12_e, e1]
          · refine ⟨(t + 1, p + 1), ⟨by show 0 ≤ p + 1; omega, by show p + 1 ≤ 601; omega, Or.inr (by show p + 1 ≤ sl - len k + 1; omega), ?_⟩, by show ((1000 : Int) - (p + 1)).toNat < (1000 - p).toNat; omega, ?_⟩
            · show t + 1 = sm _ (p + 1).toNat
              rw [es]; unfold sm; rw [ep, if_pos (by omega), g4]
            · simp (disch := omega) only [cLt_t, cLt_f, cEq_t, cEq_f, cLtL_t, cLtL_f, cEqL_t, cEqL_f, cR_t, cRL_t, cZ_t, cN_t, cCp_t, rdA_t, ob_e, bd1_e, bd2_e, bd3_e, bd4_e, bd5_e, bd6_e, bd7_e, bd8_e, bd9_e, bd10_e, bd12_e, e1]
    · refine ⟨-3, ?_, ?_⟩
      · by_cases z : m < 0
        · simp (disch := omega) only [cLt_t, cLt_f, cEq_t, cEq_f, cLtL_t, cLtL_f, cEqL_t, cEqL_f, cR_t, cRL_t, cZ_t, cN_t, cCp_t, rdA_t, ob_e, bd1_e, bd2_e, bd3_e, bd4_e, bd5_e, bd6_e, bd7_e, bd8_e, bd9_e, bd10_e, bd12_e, X3_isAlive_e, if_pos h]
        · simp (disch := omega) only [cLt_t, cLt_f, cEq_t, cEq_f, cLtL_t, cLtL_f, cEqL_t, cEqL_f, cR_t, cRL_t, cZ_t, cN_t, cCp_t, rdA_t, ob_e, bd1_e, bd2_e, bd3_e, bd4_e, bd5_e, bd6_e, bd7_e, bd8_e, bd9_e, bd10_e, bd12_e, X3_isAlive_e, if_pos h]
      · simp (disch := omega) only [cLt_t, cLt_f, cEq_t, cEq_f, cLtL_t, cLtL_f, cEqL_t, cEqL_f, cR_t, cRL_t, cZ_t, cN_t, cCp_t, rdA_t, ob_e, bd1_e, bd2_e, bd3_e, bd4_e, bd5_e, bd6_e, bd7_e, bd8_e, bd9_e, bd10_e, bd12_e, X8_isLiveOne_e, if_pos h, X8_isIn_e, if_neg hm]
  · exact ⟨-2, by simp (disch := omega) only [cLt_t, cLt_f, cEq_t, cEq_f, cLtL_t, cLtL_f, cEqL_t, cEqL_f, cR_t, cRL_t, cZ_t, cN_t, cCp_t, rdA_t, ob_e, bd1_e, bd2_e, bd3_e, bd4_e, bd5_e, bd6_e, bd7_e, bd8_e, bd9_e, bd10_e, bd12_e, X3_isAlive_e, if_neg h], by simp (disch := omega) only [cLt_t, cLt_f, cEq_t, cEq_f, cLtL_t, cLtL_f, cEqL_t, cEqL_f, cR_t, cRL_t, cZ_t, cN_t, cCp_t, rdA_t, ob_e, bd1_e, bd2_e, bd3_e, bd4_e, bd5_e, bd6_e, bd7_e, bd8_e, bd9_e, bd10_e, bd12_e, X8_isLiveOne_e, if_neg h]⟩
/-- the first place of the smallest value among 0 .. N-1, or -1 -/
def AM (f : Int → Int) (N r : Int) : Prop := (N ≤ 0 ∧ r = -1) ∨ (0 ≤ r ∧ r < N ∧ (∀ q, 0 ≤ q → q < N → f r ≤ f q) ∧ ∀ q, 0 ≤ q → q < r → f r < f q)
theorem AM.uniq {f : Int → Int} {N r s : Int} (h : AM f N r) (g : AM f N s) : r = s := by
  rcases h with ⟨h1, h2⟩ | ⟨h1, h2, h3, h4⟩ <;> rcases g with ⟨g1, g2⟩ | ⟨g1, g2, g3, g4⟩
  · omega
  · omega
  · omega
  · rcases Int.lt_trichotomy r s with q | q | q
    · have := g4 r h1 q; have := h3 s g1 g2; omega
    · exact q
    · have := h4 s g1 q; have := g3 r h1 h2; omega
theorem AM.step {f : Int → Int} {N r : Int} (h : AM f N r) (hN : 0 ≤ N) : AM f (N + 1) (if r = -1 then N else if f N < f r then N else r) := by
  rcases h with ⟨h1, h2⟩ | ⟨h1, h2, h3, h4⟩
  · rw [if_pos h2]
    have e : N = 0 := by omega
    subst e
    exact Or.inr ⟨by omega, by omega, fun q a b => by rw [show q = 0 by omega]; omega, fun q a b => by omega⟩
  · rw [if_neg (by omega)]
    by_cases c : f N < f r
    · rw [if_pos c]
      exact Or.inr ⟨hN, by omega, fun q a b => by
        by_cases z : q = N
        · subst z; omega
        · have := h3 q a (by omega); omega, fun q a b => by have := h3 q a b; omega⟩
    · rw [if_neg c]
      exact Or.inr ⟨h1, by omega, fun q a b => by
        by_cases z : q = N
        · subst z; omega
        · exact h3 q a (by omega), h4⟩
theorem X7_nearestPlace_e {gv on k sl : Int} {len bytes wt live str : Int → Int} (hK : KW gv len bytes wt live) (o1 : 0 ≤ on) (o2 : on ≤ 1) (hk1 : 0 ≤ k) (hk2 : k < gv) (hs1 : 0 ≤ sl) (hs2 : sl ≤ 600) (hS : RB str 0 600) : ∃ r, s_X7_nearestPlace on gv bytes len sl str k = some r ∧ AM (fun p => mmc on bytes str k p (len k).toNat) (sl - len k + 1) r := by
  have hg := hK.2.1
  have hk := hK.2.2 k hk1 hk2
  have A := loopR (fun fu (st : Int × Int × Int) => s_X7_nearestPlace_26 fu on gv bytes len sl str k st.1 st.2.1 (sl - len k) st.2.2) (fun st => (1000 - st.2.2).toNat) (fun st => 0 ≤ st.2.2 ∧ st.2.2 ≤ 601 ∧ (st.2.2 = 0 ∨ st.2.2 ≤ sl - len k + 1) ∧ AM (fun p => mmc on bytes str k p (len k).toNat) st.2.2 st.1 ∧ ((st.1 = -1 ∧ st.2.1 = 17) ∨ (0 ≤ st.1 ∧ st.2.1 = mmc on bytes str k st.1 (len k).toNat))) (fun r => AM (fun p => mmc on bytes str k p (len k).toNat) (sl - len k + 1) r) ?_ FU (-1, 17, 0) ⟨Int.le_refl _, by show (0 : Int) ≤ 601; omega, Or.inl rfl, Or.inl ⟨Int.le_refl _, rfl⟩, Or.inl ⟨rfl, rfl⟩⟩ (FU_lt (by show ((1000 : Int) - 0).toNat < _; omega))
  · obtain ⟨r, a1, a2⟩ := A
    have a1 : s_X7_nearestPlace_26 FU on gv bytes len sl str k (-1) 17 (sl - len k) 0 = some r := a1
    unfold s_X7_nearestPlace
    exact ⟨r, by simp (disch := omega) only [cLt_t, cLt_f, cEq_t, cEq_f, cLtL_t, cLtL_f, cEqL_t, cEqL_f, cR_t, cRL_t, cZ_t, cN_t, cCp_t, rdA_t, ob_e, bd1_e, bd2_e, bd3_e, bd4_e, bd5_e, bd6_e, bd7_e, bd8_e, bd9_e, bd10_e, bd12_e, X3_lengthOf_e, a1], a2⟩
  · intro fu ⟨ne, fe, p⟩ ⟨g1, g2, g3, g4, g5⟩
    have g1 : 0 ≤ p := g1
    have g2 : p ≤ 601 := g2
    have g3 : p = 0 ∨ p ≤ sl - len k + 1 := g3
    have g4 : AM (fun p => mmc on bytes str k p (len k).toNat) p ne := g4
    have g5 : (ne = -1 ∧ fe = 17) ∨ (0 ≤ ne ∧ fe = mmc on bytes str k ne (len k).toNat) := g5
    have rn := mmc_rg on bytes str k ne (len k).toNat
    simp only [s_X7_nearestPlace_26_s]
    by_cases c1 : sl - len k < p
    · left
      refine ⟨ne, by simp (disch := omega) only [cLt_t, cLt_f, cEq_t, cEq_f, cLtL_t, cLtL_f, cEqL_t, cEqL_f, cR_t, cRL_t, cZ_t, cN_t, cCp_t, rdA_t, ob_e, bd1_e, bd2_e, bd3_e, bd4_e, bd5_e, bd6_e, bd7_e, bd8_e, bd9_e, bd10_e, bd12_e], ?_⟩
      rcases g3 with z | z
      · subst z
        rcases g4 with ⟨w1, w2⟩ | ⟨w1, w2, -⟩
        · exact Or.inl ⟨by omega, w2⟩
        · omega
      · rw [show sl - len k + 1 = p by omega]; exact g4
    · right
      have e1 := X3_mismatchesAt_e (p := p) (sl := sl) hK o1 o2 hk1 hk2 hs2 hS g1 (by omega)
      have mr := mmc_rg on bytes str k p (len k).toNat
      have st := g4.step g1
      have hne : ne = -1 ∨ 0 ≤ ne := by rcases g5 with z | z <;> omega
      by_cases c2 : mmc on bytes str k p (len k).toNat < fe
      · refine ⟨(p, mmc on bytes str k p (len k).toNat, p + 1), ⟨by show 0 ≤ p + 1; omega, by show p + 1 ≤ 601; omega, Or.inr (by show p + 1 ≤ sl - len k + 1; omega), ?_, Or.inr ⟨g1, rfl⟩⟩, by show ((1000 : Int) - (p + 1)).toNat < (1000 - p).toNat; omega, ?_⟩
        · show AM _ (p + 1) p
          have e : (if ne = -1 then p else if mmc on bytes str k p (len k).toNat < mmc on bytes str k ne (len k).toNat then p else ne) = p := by
            rcases g5 with ⟨z1, z2⟩ | ⟨z1, z2⟩
            · rw [if_pos z1]
            · rw [if_neg (by omega), if_pos (by omega)]
          rw [show (if ne = -1 then p else if (fun p => mmc on bytes str k p (len k).toNat) p < (fun p => mmc on bytes str k p (len k).toNat) ne then p else ne) = p from e] at st
          exact st
        · simp (disch := omega) only [cLt_t, cLt_f, cEq_t, cEq_f, cLtL_t, cLtL_f, cEqL_t, cEqL_f, cR_t, cRL_t, cZ_t, cN_t, cCp_t, rdA_t, ob_e, bd1_e, bd2_e, bd3_e, bd4_e, bd5_e, bd6_e, bd7_e, bd8_e, bd9_e, bd10_e, bd12_e, e1]
      · have hn0 : 0 ≤ ne := by rcases g5 with ⟨z1, z2⟩ | ⟨z1, z2⟩ <;> omega
        refine ⟨(ne, fe, p + 1), ⟨by show 0 ≤ p + 1; omega, by show p + 1 ≤ 601; omega, Or.inr (by show p + 1 ≤ sl - len k + 1; omega), ?_, g5⟩, by show ((1000 : Int) - (p + 1)).toNat < (1000 - p).toNat; omega, ?_⟩
        · show AM _ (p + 1) ne
          have e : (if ne = -1 then p else if mmc on bytes str k p (len k).toNat < mmc on bytes str k ne (len k).toNat then p else ne) = ne := by
            rw [if_neg (by omega), if_neg (by omega)]
          rw [show (if ne = -1 then p else if (fun p => mmc on bytes str k p (len k).toNat) p < (fun p => mmc on bytes str k p (len k).toNat) ne then p else ne) = ne from e] at st
          exact st
        · simp (disch := omega) only [cLt_t, cLt_f, cEq_t, cEq_f, cLtL_t, cLtL_f, cEqL_t, cEqL_f, cR_t, cRL_t, cZ_t, cN_t, cCp_t, rdA_t, ob_e, bd1_e, bd2_e, bd3_e, bd4_e, bd5_e, bd6_e, bd7_e, bd8_e, bd9_e, bd10_e, bd12_e, e1]
theorem X8_nearest_e {gv on k sl : Int} {len bytes wt live str : Int → Int} (hK : KW gv len bytes wt live) (o1 : 0 ≤ on) (o2 : on ≤ 1) (hk1 : 0 ≤ k) (hk2 : k < gv) (hs1 : 0 ≤ sl) (hs2 : sl ≤ 600) (hS : RB str 0 600) : ∃ r, s_X8_nearest on sl len bytes str k = some r ∧ AM (fun p => mmc on bytes str k p (len k).toNat) (sl - len k + 1) r := by
  have hg := hK.2.1
  have hk := hK.2.2 k hk1 hk2
  have A := loopR (fun fu (st : Int × Int) => s_X8_nearest_4 fu on sl len bytes str k st.1 st.2) (fun st => (1000 - st.2).toNat) (fun st => 0 ≤ st.2 ∧ st.2 ≤ 601 ∧ (st.2 = 0 ∨ st.2 ≤ sl - len k + 1) ∧ AM (fun p => mmc on bytes str k p (len k).toNat) st.2 st.1) (fun r => AM (fun p => mmc on bytes str k p (len k).toNat) (sl - len k + 1) r) ?_ FU (-1, 0) ⟨Int.le_refl _, by show (0 : Int) ≤ 601; omega, Or.inl rfl, Or.inl ⟨Int.le_refl _, rfl⟩⟩ (FU_lt (by show ((1000 : Int) - 0).toNat < _; omega))
  · obtain ⟨r, a1, a2⟩ := A
    have a1 : s_X8_nearest_4 FU on sl len bytes str k (-1) 0 = some r := a1
    unfold s_X8_nearest
    exact ⟨r, by simp (disch := omega) only [cLt_t, cLt_f, cEq_t, cEq_f, cLtL_t, cLtL_f, cEqL_t, cEqL_f, cR_t, cRL_t, cZ_t, cN_t, cCp_t, rdA_t, ob_e, bd1_e, bd2_e, bd3_e, bd4_e, bd5_e, bd6_e, bd7_e, bd8_e, bd9_e, bd10_e, bd12_e, a1], a2⟩
  · intro fu ⟨ne, p⟩ ⟨g1, g2, g3, g4⟩
    have g1 : 0 ≤ p := g1
    have g2 : p ≤ 601 := g2
    have g3 : p = 0 ∨ p ≤ sl - len k + 1 := g3
    have g4 : AM (fun p => mmc on bytes str k p (len k).toNat) p ne := g4
    have rn := mmc_rg on bytes str k ne (len k).toNat
    simp only [s_X8_nearest_4_s]
    by_cases c1 : sl < p + len k
    · left
      refine ⟨ne, by simp (disch := omega) only [cLt_t, cLt_f, cEq_t, cEq_f, cLtL_t, cLtL_f, cEqL_t, cEqL_f, cR_t, cRL_t, cZ_t, cN_t, cCp_t, rdA_t, ob_e, bd1_e, bd2_e, bd3_e, bd4_e, bd5_e, bd6_e, bd7_e, bd8_e, bd9_e, bd10_e, bd12_e], ?_⟩
      rcases g3 with z | z
      · subst z
        rcases g4 with ⟨w1, w2⟩ | ⟨w1, w2, -⟩
        · exact Or.inl ⟨by omega, w2⟩
        · omega
      · rw [show sl - len k + 1 = p by omega]; exact g4
    · right
      have e1 := X8_misses_e (p := p) hK o1 o2 hk1 hk2 hS g1 (by omega)
      have mr := mmc_rg on bytes str k p (len k).toNat
      have st := g4.step g1
      have hne : ne = -1 ∨ (0 ≤ ne ∧ ne < p) := by rcases g4 with ⟨z, y⟩ | ⟨z, y, -⟩ <;> omega
      have st : AM (fun p => mmc on bytes str k p (len k).toNat) (p + 1) (if ne = -1 then p else if mmc on bytes str k p (len k).toNat < mmc on bytes str k ne (len k).toNat then p else ne) := st
      refine ⟨((if ne = -1 then p else if mmc on bytes str k p (len k).toNat < mmc on bytes str k ne (len k).toNat then p else ne), p + 1), ⟨by show 0 ≤ p + 1; omega, by show p + 1 ≤ 601; omega, Or.inr (by show p + 1 ≤ sl - len k + 1; omega), st⟩, by show ((1000 : Int) - (p + 1)).toNat < (1000 - p).toNat; omega, ?_⟩
      by_cases c2 : ne = -1
      · rw [if_pos c2]
        simp (disch := omega) only [cLt_t, cLt_f, cEq_t, cEq_f, cLtL_t, cLtL_f, cEqL_t, cEqL_f, cR_t, cRL_t, cZ_t, cN_t, cCp_t, rdA_t, ob_e, bd1_e, bd2_e, bd3_e, bd4_e, bd5_e, bd6_e, bd7_e, bd8_e, bd9_e, bd10_e, bd12_e]
      · have e2 := X8_misses_e (p := ne) hK o1 o2 hk1 hk2 hS (by omega) (by omega)
        rw [if_neg c2]
        by_cases c3 : mmc on bytes str k p (len k).toNat < mmc on bytes str k ne (len k).toNat
        · rw [if_pos c3]
          simp (disch := omega) only [cLt_t, cLt_f, cEq_t, cEq_f, cLtL_t, cLtL_f, cEqL_t, cEqL_f, cR_t, cRL_t, cZ_t, cN_t, cCp_t, rdA_t, ob_e, bd1_e, bd2_e, bd3_e, bd4_e, bd5_e, bd6_e, bd7_e, bd8_e, bd9_e, bd10_e, bd12_e, e1, e2]
        · rw [if_neg c3]
          simp (disch := omega) only [cLt_t, cLt_f, cEq_t, cEq_f, cLtL_t, cLtL_f, cEqL_t, cEqL_f, cR_t, cRL_t, cZ_t, cN_t, cCp_t, rdA_t, ob_e, bd1_e, bd2_e, bd3_e, bd4_e, bd5_e, bd6_e, bd7_e, bd8_e, bd9_e, bd10_e, bd12_e, e1, e2]
theorem op_nearestStart {gv on k sl th : Int} {len bytes wt live str : Int → Int} (hK : KW gv len bytes wt live) (o1 : 0 ≤ on) (o2 : on ≤ 1) (hs1 : 0 ≤ sl) (hs2 : sl ≤ 600) (hS : RB str 0 600) (h3 : -2147483648 ≤ k) (h4 : k < 2147483648) : ∃ r, s_X7_nearestStart on gv bytes len live sl str k = some r ∧ s_X8_nearestStart th gv on sl len bytes live str k = some (r, 0) := by
  have hg0 := hK.1
  have hg := hK.2.1
  have hlv := fun a b => (hK.2.2 k a b).2.2.2.2.1
  unfold s_X7_nearestStart s_X8_nearestStart
  by_cases h : 0 ≤ k ∧ k < gv ∧ live k = 1
  · obtain ⟨r, a1, a2⟩ := X7_nearestPlace_e hK o1 o2 h.1 h.2.1 hs1 hs2 hS
    obtain ⟨r', b1, b2⟩ := X8_nearest_e hK o1 o2 h.1 h.2.1 hs1 hs2 hS
    have e := a2.uniq b2
    subst e
    exact ⟨r, by simp (disch := omega) only [cLt_t, cLt_f, cEq_t, cEq_f, cLtL_t, cLtL_f, cEqL_t, cEqL_f, cR_t, cRL_t, cZ_t, cN_t, cCp_t, rdA_t, ob_e, bd1_e, bd2_e, bd3_e, bd4_e, bd5_e, bd6_e, bd7_e, bd8_e, bd9_e, bd10_e, bd12_e, X3_isAlive_e, if_pos h, a1], by simp (disch := omega) only [cLt_t, cLt_f, cEq_t, cEq_f, cLtL_t, cLtL_f, cEqL_t, cEqL_f, cR_t, cRL_t, cZ_t, cN_t, cCp_t, rdA_t, ob_e, bd1_e, bd2_e, bd3_e, bd4_e, bd5_e, bd6_e, bd7_e, bd8_e, bd9_e, bd10_e, bd12_e, X8_isLiveOne_e, if_pos h, b1]⟩
  · exact ⟨-2, by simp (disch := omega) only [cLt_t, cLt_f, cEq_t, cEq_f, cLtL_t, cLtL_f, cEqL_t, cEqL_f, cR_t, cRL_t, cZ_t, cN_t, cCp_t, rdA_t, ob_e, bd1_e, bd2_e, bd3_e, bd4_e, bd5_e, bd6_e, bd7_e, bd8_e, bd9_e, bd10_e, bd12_e, X3_isAlive_e, if_neg h], by simp (disch := omega) only [cLt_t, cLt_f, cEq_t, cEq_f, cLtL_t, cLtL_f, cEqL_t, cEqL_f, cR_t, cRL_t, cZ_t, cN_t, cCp_t, rdA_t, ob_e, bd1_e, bd2_e, bd3_e, bd4_e, bd5_e, bd6_e, bd7_e, bd8_e, bd9_e, bd10_e, bd12_e, X8_isLiveOne_e, if_neg h]⟩
theorem op_fewestMismatches {gv on k sl th : Int} {len bytes wt live str : Int → Int} (hK : KW gv len bytes wt live) (o1 : 0 ≤ on) (o2 : on ≤ 1) (hs1 : 0 ≤ sl) (hs2 : sl ≤ 600) (hS : RB str 0 600) (h3 : -2147483648 ≤ k) (h4 : k < 2147483648) : ∃ r, s_X7_fewestMismatches on gv bytes len live sl str k = some r ∧ s_X8_fewestMismatches th gv on sl len bytes live str k = some (r, 0) := by
  have hg0 := hK.1
  have hg := hK.2.1
  have hlv := fun a b => (hK.2.2 k a b).2.2.2.2.1
  unfold s_X7_fewestMismatches s_X8_fewestMismatches
  by_cases h : 0 ≤ k ∧ k < gv ∧ live k = 1
  · have hk := hK.2.2 k h.1 h.2.1
    obtain ⟨r, a1, a2⟩ := X7_nearestPlace_e hK o1 o2 h.1 h.2.1 hs1 hs2 hS
    obtain ⟨r', b1, b2⟩ := X8_nearest_e hK o1 o2 h.1 h.2.1 hs1 hs2 hS
    have e := a2.uniq b2
    subst e
    by_cases c : r = -1
    · exact ⟨-1, by simp (disch := omega) only [cLt_t, cLt_f, cEq_t, cEq_f, cLtL_t, cLtL_f, cEqL_t, cEqL_f, cR_t, cRL_t, cZ_t, cN_t, cCp_t, rdA_t, ob_e, bd1_e, bd2_e, bd3_e, bd4_e, bd5_e, bd6_e, bd7_e, bd8_e, bd9_e, bd10_e, bd12_e, X3_isAlive_e, if_pos h, a1], by simp (disch := omega) only [cLt_t, cLt_f, cEq_t, cEq_f, cLtL_t, cLtL_f, cEqL_t, cEqL_f, cR_t, cRL_t, cZ_t, cN_t, cCp_t, rdA_t, ob_e, bd1_e, bd2_e, bd3_e, bd4_e, bd5_e, bd6_e, bd7_e, bd8_e, bd9_e, bd10_e, bd12_e, X8_isLiveOne_e, if_pos h, b1]⟩
    · have hr : 0 ≤ r ∧ r < sl - len k + 1 := by rcases a2 with ⟨z, y⟩ | ⟨z, y, -⟩ <;> omega
      have e1 := X3_mismatchesAt_e (p := r) (sl := sl) hK o1 o2 h.1 h.2.1 hs2 hS hr.1 (by omega)
      have e2 := X8_misses_e (p := r) hK o1 o2 h.1 h.2.1 hS hr.1 (by omega)
      exact ⟨mmc on bytes str k r (len k).toNat, by simp (disch := omega) only [cLt_t, cLt_f, cEq_t, cEq_f, cLtL_t, cLtL_f, cEqL_t, cEqL_f, cR_t, cRL_t, cZ_t, cN_t, cCp_t, rdA_t, ob_e, bd1_e, bd2_e, bd3_e, bd4_e, bd5_e, bd6_e, bd7_e, bd8_e, bd9_e, bd10_e, bd12_e, X3_isAlive_e, if_pos h, a1, e1], by simp (disch := omega) only [cLt_t, cLt_f, cEq_t, cEq_f, cLtL_t, cLtL_f, cEqL_t, cEqL_f, cR_t, cRL_t, cZ_t, cN_t, cCp_t, rdA_t, ob_e, bd1_e, bd2_e, bd3_e, bd4_e, bd5_e, bd6_e, bd7_e, bd8_e, bd9_e, bd10_e, bd12_e, X8_isLiveOne_e, if_pos h, b1, e2]⟩
  · exact ⟨-2, by simp (disch := omega) only [cLt_t, cLt_f, cEq_t, cEq_f, cLtL_t, cLtL_f, cEqL_t, cEqL_f, cR_t, cRL_t, cZ_t, cN_t, cCp_t, rdA_t, ob_e, bd1_e, bd2_e, bd3_e, bd4_e, bd5_e, bd6_e, bd7_e, bd8_e, bd9_e, bd10_e, bd12_e, X3_isAlive_e, if_neg h], by simp (disch := omega) only [cLt_t, cLt_f, cEq_t, cEq_f, cLtL_t, cLtL_f, cEqL_t, cEqL_f, cR_t, cRL_t, cZ_t, cN_t, cCp_t, rdA_t, ob_e, bd1_e, bd2_e, bd3_e, bd4_e, bd5_e, bd6_e, bd7_e, bd8_e, bd9_e, bd10_e, bd12_e, X8_isLiveOne_e, if_neg h]⟩
theorem X2_overlap_e {m0 m2 : Nat} {on e b most : Int} {f g : Int → Int} (o1 : 0 ≤ on) (o2 : on ≤ 1) (hm0 : m0 ≤ 100000) (hm2 : m2 ≤ 100000) (hn1 : -1 ≤ most) (hn : most ≤ 1000) (ha : most ≤ e) (hb : 0 ≤ b) (ha2 : e ≤ (m0 : Int)) (hb2 : b + most ≤ (m2 : Int)) (hF : RB f (e - most) most) (hG : RB g b most) : ∃ r, s_X2_overlap m0 m2 on f g e b most = some r ∧ DN (fun n => RE on f (e - n) g b n) most r := by
  unfold s_X2_overlap
  refine loopR (fun fu n => s_X2_overlap_4 m0 m2 fu on f g e b n) (fun n => n.toNat) (fun n => -1 ≤ n ∧ n ≤ most ∧ ∀ j, n < j → j ≤ most → ¬ RE on f (e - j) g b j) (fun r => DN (fun n => RE on f (e - n) g b n) most r) ?_ FU most ⟨by omega, by omega, fun j x y => by omega⟩ (FU_lt (by omega))
  intro fu n ⟨g1, g2, g3⟩
  simp only [s_X2_overlap_4_s]
  by_cases h : 0 < n
  · obtain ⟨r, e1, e2⟩ := X2_commonPrefix_e (m0 := m0) (m2 := m2) (on := on) (a := e - n) (b := b) (n := n) (f := f) (g := g) o1 o2 hm0 hm2 (by omega) (by omega) (by omega) hb (by omega) (by omega) (fun j a b => by have := hF (most - n + j) (by omega) (by omega); rw [show e - most + (most - n + j) = e - n + j by omega] at this; exact this) (fun j a b => hG j a (by omega))
    have f1 := e2.1
    have f2 := e2.2.1
    by_cases c : r = n
    · left
      exact ⟨n, by simp (disch := omega) only [cLt_t, cLt_f, cEq_t, cEq_f, cLtL_t, cLtL_f, cEqL_t, cEqL_f, cR_t, cRL_t, cZ_t, cN_t, cCp_t, rdA_t, ob_e, bd1_e, bd2_e, bd3_e, bd4_e, bd5_e, bd6_e, bd7_e, bd8_e, bd9_e, bd10_e, bd12_e, e1], Or.inr ⟨by omega, g2, e2.full.mp c, g3⟩⟩
    · right
      refine ⟨n + -1, ⟨by omega, by omega, fun j x y => ?_⟩, by omega, ?_⟩
      · by_cases hj : j = n
        · subst hj; exact fun z => c (e2.full.mpr z)
        · exact g3 j (by omega) y
      · simp (disch := omega) only [cLt_t, cLt_f, cEq_t, cEq_f, cLtL_t, cLtL_f, cEqL_t, cEqL_f, cR_t, cRL_t, cZ_t, cN_t, cCp_t, rdA_t, ob_e, bd1_e, bd2_e, bd3_e, bd4_e, bd5_e, bd6_e, bd7_e, bd8_e, bd9_e, bd10_e, bd12_e, e1]
  · left
    exact ⟨0, by simp (disch := omega) only [cLt_t, cLt_f, cEq_t, cEq_f, cLtL_t, cLtL_f, cEqL_t, cEqL_f, cR_t, cRL_t, cZ_t, cN_t, cCp_t, rdA_t, ob_e, bd1_e, bd2_e, bd3_e, bd4_e, bd5_e, bd6_e, bd7_e, bd8_e, bd9_e, bd10_e, bd12_e], Or.inl ⟨rfl, fun j x y => g3 j (by omega) y⟩⟩
theorem op_overlapLength {gv on x y th : Int} {len bytes wt live : Int → Int} (hK : KW gv len bytes wt live) (o1 : 0 ≤ on) (o2 : on ≤ 1) (h3 : -2147483648 ≤ x) (h4 : x < 2147483648) (h5 : -2147483648 ≤ y) (h6 : y < 2147483648) : ∃ r, s_X7_overlapLength on gv bytes len x y = some r ∧ s_X8_overlapLength th gv on len bytes x y = some (r, 0) := by
  have hg0 := hK.1
  have hg := hK.2.1
  unfold s_X7_overlapLength s_X8_overlapLength
  by_cases hx : 0 ≤ x ∧ x < gv
  · by_cases hy : 0 ≤ y ∧ y < gv
    · have kx := hK.2.2 x hx.1 hx.2
      have ky := hK.2.2 y hy.1 hy.2
      have em : iMin (len x) (len y) ≤ len x ∧ iMin (len x) (len y) ≤ len y ∧ (iMin (len x) (len y) = len x ∧ len x ≤ len y ∨ iMin (len x) (len y) = len y ∧ len y < len x) := by unfold iMin; split <;> omega
      obtain ⟨r, a1, a2⟩ := X2_overlap_e (m0 := 1920) (m2 := 1920) (on := on) (e := 16 * x + len x) (b := 16 * y) (most := iMin (len x) (len y) - 1) (f := bytes) (g := bytes) o1 o2 (by omega) (by omega) (by omega) (by omega) (by omega) (by omega) (by omega) (by omega) (by rw [show 16 * x + len x - (iMin (len x) (len y) - 1) = 16 * x + (len x - (iMin (len x) (len y) - 1)) by omega]; exact hK.rb2 hx.1 hx.2 (by omega) (by omega)) (hK.rb hy.1 hy.2 (by omega))
      have B := loopR (fun fu n => s_X8_overlapLength_59 fu on len bytes x y n) (fun n => n.toNat) (fun n => 0 ≤ n ∧ n ≤ iMin (len x) (len y) - 1 ∧ ∀ j, n < j → j ≤ iMin (len x) (len y) - 1 → ¬ RE on bytes (16 * x + len x - j) bytes (16 * y) j) (fun r => DN (fun n => RE on bytes (16 * x + len x - n) bytes (16 * y) n) (iMin (len x) (len y) - 1) r) ?_ FU (iMin (len x) (len y) - 1) ⟨by omega, by omega, fun j p q => by omega⟩ (FU_lt (by omega))
      · obtain ⟨r', b1, b2⟩ := B
        have b1 : s_X8_overlapLength_59 FU on len bytes x y (iMin (len x) (len y) - 1) = some r' := b1
        have e := a2.uniq b2
        subst e
        refine ⟨r, by simp (disch := omega) only [cLt_t, cLt_f, cEq_t, cEq_f, cLtL_t, cLtL_f, cEqL_t, cEqL_f, cR_t, cRL_t, cZ_t, cN_t, cCp_t, rdA_t, ob_e, bd1_e, bd2_e, bd3_e, bd4_e, bd5_e, bd6_e, bd7_e, bd8_e, bd9_e, bd10_e, bd12_e, X3_isGiven_e, if_pos hx, if_pos hy, X3_firstByteOf_e, X3_lengthOf_e, a1], ?_⟩
        rcases em.2.2 with ⟨z1, z2⟩ | ⟨z1, z2⟩
        · by_cases z3 : len x < len y
          · rw [z1] at b1
            simp (disch := omega) only [cLt_t, cLt_f, cEq_t, cEq_f, cLtL_t, cLtL_f, cEqL_t, cEqL_f, cR_t, cRL_t, cZ_t, cN_t, cCp_t, rdA_t, ob_e, bd1_e, bd2_e, bd3_e, bd4_e, bd5_e, bd6_e, bd7_e, bd8_e, bd9_e, bd10_e, bd12_e, X8_isGiven_e, if_pos hx, if_pos hy, b1]
          · rw [show iMin (len x) (len y) = len y by omega] at b1
            simp (disch := omega) only [cLt_t, cLt_f, cEq_t, cEq_f, cLtL_t, cLtL_f, cEqL_t, cEqL_f, cR_t, cRL_t, cZ_t, cN_t, cCp_t, rdA_t, ob_e, bd1_e, bd2_e, bd3_e, bd4_e, bd5_e, bd6_e, bd7_e, bd8_e, bd9_e, bd10_e, bd12_e, X8_isGiven_e, if_pos hx, if_pos hy, b1]
        · rw [z1] at b1
          simp (disch := omega) only [cLt_t, cLt_f, cEq_t, cEq_f, cLtL_t, cLtL_f, cEqL_t, cEqL_f, cR_t, cRL_t, cZ_t, cN_t, cCp_t, rdA_t, ob_e, bd1_e, bd2_e, bd3_e, bd4_e, bd5_e, bd6_e, bd7_e, bd8_e, bd9_e, bd10_e, bd12_e, X8_isGiven_e, if_pos hx, if_pos hy, b1]
      · intro fu n ⟨g1, g2, g3⟩
        simp only [s_X8_overlapLength_59_s]
        by_cases h : 0 < n
        · obtain ⟨z, z1, z2⟩ := X8_begins_e (k := x) (a := len x - n) (e := len x) (x := y) hK o1 o2 hx.1 hx.2 hy.1 hy.2 (by omega) (by omega) (by omega)
          rw [show 16 * x + (len x - n) = 16 * x + len x - n by omega, show len x - (len x - n) = n by omega] at z2
          rcases z2 with ⟨y1, y2⟩ | ⟨y1, y2⟩
          · left
            exact ⟨n, by simp (disch := omega) only [cLt_t, cLt_f, cEq_t, cEq_f, cLtL_t, cLtL_f, cEqL_t, cEqL_f, cR_t, cRL_t, cZ_t, cN_t, cCp_t, rdA_t, ob_e, bd1_e, bd2_e, bd3_e, bd4_e, bd5_e, bd6_e, bd7_e, bd8_e, bd9_e, bd10_e, bd12_e, z1], Or.inr ⟨by omega, g2, y2.2.symm, g3⟩⟩
          · right
            refine ⟨n + -1, ⟨by omega, by omega, fun j p q => ?_⟩, by omega, ?_⟩
            · by_cases hj : j = n
              · subst hj; exact fun w => y2 ⟨by omega, w.symm⟩
              · exact g3 j (by omega) q
            · simp (disch := omega) only [cLt_t, cLt_f, cEq_t, cEq_f, cLtL_t, cLtL_f, cEqL_t, cEqL_f, cR_t, cRL_t, cZ_t, cN_t, cCp_t, rdA_t, ob_e, bd1_e, bd2_e, bd3_e, bd4_e, bd5_e, bd6_e, bd7_e, bd8_e, bd9_e, bd10_e, bd12_e, z1]
        · left
          exact ⟨n, by simp (disch := omega) only [cLt_t, cLt_f, cEq_t, cEq_f, cLtL_t, cLtL_f, cEqL_t, cEqL_f, cR_t, cRL_t, cZ_t, cN_t, cCp_t, rdA_t, ob_e, bd1_e, bd2_e, bd3_e, bd4_e, bd5_e, bd6_e, bd7_e, bd8_e, bd9_e, bd10_e, bd12_e], Or.inl ⟨by omega, fun j p q => g3 j (by omega) q⟩⟩
    · exact ⟨-2, by simp (disch := omega) only [cLt_t, cLt_f, cEq_t, cEq_f, cLtL_t, cLtL_f, cEqL_t, cEqL_f, cR_t, cRL_t, cZ_t, cN_t, cCp_t, rdA_t, ob_e, bd1_e, bd2_e, bd3_e, bd4_e, bd5_e, bd6_e, bd7_e, bd8_e, bd9_e, bd10_e, bd12_e, X3_isGiven_e, if_pos hx, if_neg hy], by simp (disch := omega) only [cLt_t, cLt_f, cEq_t, cEq_f, cLtL_t, cLtL_f, cEqL_t, cEqL_f, cR_t, cRL_t, cZ_t, cN_t, cCp_t, rdA_t, ob_e, bd1_e, bd2_e, bd3_e, bd4_e, bd5_e, bd6_e, bd7_e, bd8_e, bd9_e, bd10_e, bd12_e, X8_isGiven_e, if_pos hx, if_neg hy]⟩
  · exact ⟨-2, by simp (disch := omega) only [cLt_t, cLt_f, cEq_t, cEq_f, cLtL_t, cLtL_f, cEqL_t, cEqL_f, cR_t, cRL_t, cZ_t, cN_t, cCp_t, rdA_t, ob_e, bd1_e, bd2_e, bd3_e, bd4_e, bd5_e, bd6_e, bd7_e, bd8_e, bd9_e, bd10_e, bd12_e, X3_isGiven_e, if_neg hx], by simp (disch := omega) only [cLt_t, cLt_f, cEq_t, cEq_f, cLtL_t, cLtL_f, cEqL_t, cEqL_f, cR_t, cRL_t, cZ_t, cN_t, cCp_t, rdA_t, ob_e, bd1_e, bd2_e, bd3_e, bd4_e, bd5_e, bd6_e, bd7_e, bd8_e, bd9_e, bd10_e, bd12_e, X8_isGiven_e, if_neg hx]⟩
