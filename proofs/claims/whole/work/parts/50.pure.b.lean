/-! ===== keywords: what holds of the rows of keywords ===== -/
def KW (gv : Int) (len bytes wt live : Int → Int) : Prop := 0 ≤ gv ∧ gv ≤ 120 ∧ ∀ k, 0 ≤ k → k < gv → 1 ≤ len k ∧ len k ≤ 16 ∧ 1 ≤ wt k ∧ wt k ≤ 99 ∧ (live k = 0 ∨ live k = 1) ∧ ∀ i, 0 ≤ i → i < len k → 33 ≤ bytes (16 * k + i) ∧ bytes (16 * k + i) ≤ 126
theorem KW.rb {gv k n : Int} {len bytes wt live : Int → Int} (h : KW gv len bytes wt live) (h0 : 0 ≤ k) (h1 : k < gv) (hn : n ≤ len k) : RB bytes (16 * k) n := fun j h2 h3 => by
  have := (h.2.2 k h0 h1).2.2.2.2.2 j h2 (by omega)
  omega
theorem KW.rb2 {gv k n i : Int} {len bytes wt live : Int → Int} (h : KW gv len bytes wt live) (h0 : 0 ≤ k) (h1 : k < gv) (hi : 0 ≤ i) (hn : i + n ≤ len k) : RB bytes (16 * k + i) n := fun j h2 h3 => by
  have := (h.2.2 k h0 h1).2.2.2.2.2 (i + j) (by omega) (by omega)
  rw [show 16 * k + i + j = 16 * k + (i + j) by omega]
  omega
theorem X3_isGiven_e {gv k : Int} (h1 : 0 ≤ gv) (h2 : gv ≤ 120) (h3 : -2147483648 ≤ k) (h4 : k < 2147483648) : s_X3_isGiven gv k = some (if 0 ≤ k ∧ k < gv then 1 else 0) := by
  unfold s_X3_isGiven
  by_cases h : k < 0
  · simp (disch := omega) only [cLt_t, cLt_f, cEq_t, cEq_f, cLtL_t, cLtL_f, cEqL_t, cEqL_f, cR_t, cRL_t, cZ_t, cN_t, cCp_t, rdA_t, ob_e, bd1_e, bd2_e, bd3_e, bd4_e, bd5_e, bd6_e, bd7_e, bd8_e, bd9_e, bd10_e, bd12_e]; rw [if_neg (by omega)]
  · by_cases h' : k < gv
    · simp (disch := omega) only [cLt_t, cLt_f, cEq_t, cEq_f, cLtL_t, cLtL_f, cEqL_t, cEqL_f, cR_t, cRL_t, cZ_t, cN_t, cCp_t, rdA_t, ob_e, bd1_e, bd2_e, bd3_e, bd4_e, bd5_e, bd6_e, bd7_e, bd8_e, bd9_e, bd10_e, bd12_e]; rw [if_pos (by omega)]
    · simp (disch := omega) only [cLt_t, cLt_f, cEq_t, cEq_f, cLtL_t, cLtL_f, cEqL_t, cEqL_f, cR_t, cRL_t, cZ_t, cN_t, cCp_t, rdA_t, ob_e, bd1_e, bd2_e, bd3_e, bd4_e, bd5_e, bd6_e, bd7_e, bd8_e, bd9_e, bd10_e, bd12_e]; rw [if_neg (by omega)]
theorem X3_isAlive_e {gv k : Int} {live : Int → Int} (h1 : 0 ≤ gv) (h2 : gv ≤ 120) (h3 : -2147483648 ≤ k) (h4 : k < 2147483648) (hl : 0 ≤ k → k < gv → live k = 0 ∨ live k = 1) : s_X3_isAlive gv live k = some (if 0 ≤ k ∧ k < gv ∧ live k = 1 then 1 else 0) := by
  unfold s_X3_isAlive
  by_cases h : 0 ≤ k ∧ k < gv
  · have := hl h.1 h.2
    by_cases h' : live k = 1
    · simp (disch := omega) only [cLt_t, cLt_f, cEq_t, cEq_f, cLtL_t, cLtL_f, cEqL_t, cEqL_f, cR_t, cRL_t, cZ_t, cN_t, cCp_t, rdA_t, ob_e, bd1_e, bd2_e, bd3_e, bd4_e, bd5_e, bd6_e, bd7_e, bd8_e, bd9_e, bd10_e, bd12_e, X3_isGiven_e, if_pos h]; rw [if_pos ⟨h.1, h.2, h'⟩]
    · simp (disch := omega) only [cLt_t, cLt_f, cEq_t, cEq_f, cLtL_t, cLtL_f, cEqL_t, cEqL_f, cR_t, cRL_t, cZ_t, cN_t, cCp_t, rdA_t, ob_e, bd1_e, bd2_e, bd3_e, bd4_e, bd5_e, bd6_e, bd7_e, bd8_e, bd9_e, bd10_e, bd12_e, X3_isGiven_e, if_pos h]; rw [if_neg (fun q => h' q.2.2)]
  · simp (disch := omega) only [cLt_t, cLt_f, cEq_t, cEq_f, cLtL_t, cLtL_f, cEqL_t, cEqL_f, cR_t, cRL_t, cZ_t, cN_t, cCp_t, rdA_t, ob_e, bd1_e, bd2_e, bd3_e, bd4_e, bd5_e, bd6_e, bd7_e, bd8_e, bd9_e, bd10_e, bd12_e, X3_isGiven_e, if_neg h]; rw [if_neg (fun q => h ⟨q.1, q.2.1⟩)]
theorem X3_lengthOf_e {gv k : Int} {len : Int → Int} (h1 : 0 ≤ k) (h2 : k < gv) (h3 : gv ≤ 120) : s_X3_lengthOf gv len k = some (len k) := by
  unfold s_X3_lengthOf
  simp (disch := omega) only [cLt_t, cLt_f, cEq_t, cEq_f, cLtL_t, cLtL_f, cEqL_t, cEqL_f, cR_t, cRL_t, cZ_t, cN_t, cCp_t, rdA_t, ob_e, bd1_e, bd2_e, bd3_e, bd4_e, bd5_e, bd6_e, bd7_e, bd8_e, bd9_e, bd10_e, bd12_e, X3_isGiven_e]
theorem X3_weightOf_e {gv k : Int} {wt : Int → Int} (h1 : 0 ≤ k) (h2 : k < gv) (h3 : gv ≤ 120) : s_X3_weightOf gv wt k = some (wt k) := by
  unfold s_X3_weightOf
  simp (disch := omega) only [cLt_t, cLt_f, cEq_t, cEq_f, cLtL_t, cLtL_f, cEqL_t, cEqL_f, cR_t, cRL_t, cZ_t, cN_t, cCp_t, rdA_t, ob_e, bd1_e, bd2_e, bd3_e, bd4_e, bd5_e, bd6_e, bd7_e, bd8_e, bd9_e, bd10_e, bd12_e, X3_isGiven_e]
theorem X3_firstByteOf_e {k : Int} : s_X3_firstByteOf k = some (16 * k) := by
  unfold s_X3_firstByteOf
  rw [Int.mul_comm]
theorem X8_isGiven_e {gv k : Int} (h1 : 0 ≤ gv) (h2 : gv ≤ 120) (h3 : -2147483648 ≤ k) (h4 : k < 2147483648) : s_X8_isGiven gv k = some (if 0 ≤ k ∧ k < gv then 1 else 0) := by
  unfold s_X8_isGiven
  by_cases h : 0 ≤ k ∧ k < gv
  · simp (disch := omega) only [cLt_t, cLt_f, cEq_t, cEq_f, cLtL_t, cLtL_f, cEqL_t, cEqL_f, cR_t, cRL_t, cZ_t, cN_t, cCp_t, rdA_t, ob_e, bd1_e, bd2_e, bd3_e, bd4_e, bd5_e, bd6_e, bd7_e, bd8_e, bd9_e, bd10_e, bd12_e, X8_isIn_e]
    rw [if_pos (show 0 ≤ k ∧ k ≤ gv - 1 by omega), if_pos h]
  · simp (disch := omega) only [cLt_t, cLt_f, cEq_t, cEq_f, cLtL_t, cLtL_f, cEqL_t, cEqL_f, cR_t, cRL_t, cZ_t, cN_t, cCp_t, rdA_t, ob_e, bd1_e, bd2_e, bd3_e, bd4_e, bd5_e, bd6_e, bd7_e, bd8_e, bd9_e, bd10_e, bd12_e, X8_isIn_e]
    rw [if_neg (show ¬ (0 ≤ k ∧ k ≤ gv - 1) by omega), if_neg h]
theorem X8_isLiveOne_e {gv k : Int} {live : Int → Int} (h1 : 0 ≤ gv) (h2 : gv ≤ 120) (h3 : -2147483648 ≤ k) (h4 : k < 2147483648) (hl : 0 ≤ k → k < gv → live k = 0 ∨ live k = 1) : s_X8_isLiveOne gv live k = some (if 0 ≤ k ∧ k < gv ∧ live k = 1 then 1 else 0) := by
  unfold s_X8_isLiveOne
  by_cases h : 0 ≤ k ∧ k < gv
  · have := hl h.1 h.2
    by_cases h' : live k = 1
    · simp (disch := omega) only [cLt_t, cLt_f, cEq_t, cEq_f, cLtL_t, cLtL_f, cEqL_t, cEqL_f, cR_t, cRL_t, cZ_t, cN_t, cCp_t, rdA_t, ob_e, bd1_e, bd2_e, bd3_e, bd4_e, bd5_e, bd6_e, bd7_e, bd8_e, bd9_e, bd10_e, bd12_e, X8_isGiven_e, if_pos h]; rw [if_pos ⟨h.1, h.2, h'⟩]
    · simp (disch := omega) only [cLt_t, cLt_f, cEq_t, cEq_f, cLtL_t, cLtL_f, cEqL_t, cEqL_f, cR_t, cRL_t, cZ_t, cN_t, cCp_t, rdA_t, ob_e, bd1_e, bd2_e, bd3_e, bd4_e, bd5_e, bd6_e, bd7_e, bd8_e, bd9_e, bd10_e, bd12_e, X8_isGiven_e, if_pos h]; rw [if_neg (fun q => h' q.2.2)]
  · simp (disch := omega) only [cLt_t, cLt_f, cEq_t, cEq_f, cLtL_t, cLtL_f, cEqL_t, cEqL_f, cR_t, cRL_t, cZ_t, cN_t, cCp_t, rdA_t, ob_e, bd1_e, bd2_e, bd3_e, bd4_e, bd5_e, bd6_e, bd7_e, bd8_e, bd9_e, bd10_e, bd12_e, X8_isGiven_e, if_neg h]; rw [if_neg (fun q => h ⟨q.1, q.2.1⟩)]
