/-! ===== the plain calls ===== -/
theorem op_keywordLength {gv k th : Int} {len : Int → Int} (h1 : 0 ≤ gv) (h2 : gv ≤ 120) (h3 : -2147483648 ≤ k) (h4 : k < 2147483648) : ∃ r, s_X7_keywordLength gv len k = some r ∧ s_X8_keywordLength th gv len k = some (r, 0) := by
  unfold s_X7_keywordLength s_X8_keywordLength
  by_cases h : 0 ≤ k ∧ k < gv
  · exact ⟨len k, by simp (disch := omega) only [cLt_t, cLt_f, cEq_t, cEq_f, cLtL_t, cLtL_f, cEqL_t, cEqL_f, cR_t, cRL_t, cZ_t, cN_t, cCp_t, rdA_t, ob_e, bd1_e, bd2_e, bd3_e, bd4_e, bd5_e, bd6_e, bd7_e, bd8_e, bd9_e, bd10_e, bd12_e, X3_isGiven_e, if_pos h, X3_lengthOf_e], by simp (disch := omega) only [cLt_t, cLt_f, cEq_t, cEq_f, cLtL_t, cLtL_f, cEqL_t, cEqL_f, cR_t, cRL_t, cZ_t, cN_t, cCp_t, rdA_t, ob_e, bd1_e, bd2_e, bd3_e, bd4_e, bd5_e, bd6_e, bd7_e, bd8_e, bd9_e, bd10_e, bd12_e, X8_isGiven_e, if_pos h]⟩
  · exact ⟨-2, by simp (disch := omega) only [cLt_t, cLt_f, cEq_t, cEq_f, cLtL_t, cLtL_f, cEqL_t, cEqL_f, cR_t, cRL_t, cZ_t, cN_t, cCp_t, rdA_t, ob_e, bd1_e, bd2_e, bd3_e, bd4_e, bd5_e, bd6_e, bd7_e, bd8_e, bd9_e, bd10_e, bd12_e, X3_isGiven_e, if_neg h], by simp (disch := omega) only [cLt_t, cLt_f, cEq_t, cEq_f, cLtL_t, cLtL_f, cEqL_t, cEqL_f, cR_t, cRL_t, cZ_t, cN_t, cCp_t, rdA_t, ob_e, bd1_e, bd2_e, bd3_e, bd4_e, bd5_e, bd6_e, bd7_e, bd8_e, bd9_e, bd10_e, bd12_e, X8_isGiven_e, if_neg h]⟩
theorem op_keywordWeight {gv k th : Int} {wt : Int → Int} (h1 : 0 ≤ gv) (h2 : gv ≤ 120) (h3 : -2147483648 ≤ k) (h4 : k < 2147483648) : ∃ r, s_X7_keywordWeight gv wt k = some r ∧ s_X8_keywordWeight th gv wt k = some (r, 0) := by
  unfold s_X7_keywordWeight s_X8_keywordWeight
  by_cases h : 0 ≤ k ∧ k < gv
  · exact ⟨wt k, by simp (disch := omega) only [cLt_t, cLt_f, cEq_t, cEq_f, cLtL_t, cLtL_f, cEqL_t, cEqL_f, cR_t, cRL_t, cZ_t, cN_t, cCp_t, rdA_t, ob_e, bd1_e, bd2_e, bd3_e, bd4_e, bd5_e, bd6_e, bd7_e, bd8_e, bd9_e, bd10_e, bd12_e, X3_isGiven_e, if_pos h, X3_weightOf_e], by simp (disch := omega) only [cLt_t, cLt_f, cEq_t, cEq_f, cLtL_t, cLtL_f, cEqL_t, cEqL_f, cR_t, cRL_t, cZ_t, cN_t, cCp_t, rdA_t, ob_e, bd1_e, bd2_e, bd3_e, bd4_e, bd5_e, bd6_e, bd7_e, bd8_e, bd9_e, bd10_e, bd12_e, X8_isGiven_e, if_pos h]⟩
  · exact ⟨-2, by simp (disch := omega) only [cLt_t, cLt_f, cEq_t, cEq_f, cLtL_t, cLtL_f, cEqL_t, cEqL_f, cR_t, cRL_t, cZ_t, cN_t, cCp_t, rdA_t, ob_e, bd1_e, bd2_e, bd3_e, bd4_e, bd5_e, bd6_e, bd7_e, bd8_e, bd9_e, bd10_e, bd12_e, X3_isGiven_e, if_neg h], by simp (disch := omega) only [cLt_t, cLt_f, cEq_t, cEq_f, cLtL_t, cLtL_f, cEqL_t, cEqL_f, cR_t, cRL_t, cZ_t, cN_t, cCp_t, rdA_t, ob_e, bd1_e, bd2_e, bd3_e, bd4_e, bd5_e, bd6_e, bd7_e, bd8_e, bd9_e, bd10_e, bd12_e, X8_isGiven_e, if_neg h]⟩
theorem X3_byteOf_e {gv k i : Int} {bytes len : Int → Int} (h1 : 0 ≤ k) (h2 : k < gv) (h3 : gv ≤ 120) (h4 : 0 ≤ len k) (h5 : len k ≤ 16) (h6 : -2147483648 ≤ i) (h7 : i < 2147483648) : s_X3_byteOf gv bytes len k i = some (if 0 ≤ i ∧ i < len k then bytes (16 * k + i) else -1) := by
  unfold s_X3_byteOf
  by_cases h : i < 0
  · simp (disch := omega) only [cLt_t, cLt_f, cEq_t, cEq_f, cLtL_t, cLtL_f, cEqL_t, cEqL_f, cR_t, cRL_t, cZ_t, cN_t, cCp_t, rdA_t, ob_e, bd1_e, bd2_e, bd3_e, bd4_e, bd5_e, bd6_e, bd7_e, bd8_e, bd9_e, bd10_e, bd12_e]; rw [if_neg (by omega)]
  · by_cases h' : i < len k
    · simp (disch := omega) only [cLt_t, cLt_f, cEq_t, cEq_f, cLtL_t, cLtL_f, cEqL_t, cEqL_f, cR_t, cRL_t, cZ_t, cN_t, cCp_t, rdA_t, ob_e, bd1_e, bd2_e, bd3_e, bd4_e, bd5_e, bd6_e, bd7_e, bd8_e, bd9_e, bd10_e, bd12_e, X3_lengthOf_e, X3_firstByteOf_e]; rw [if_pos (by omega)]
    · simp (disch := omega) only [cLt_t, cLt_f, cEq_t, cEq_f, cLtL_t, cLtL_f, cEqL_t, cEqL_f, cR_t, cRL_t, cZ_t, cN_t, cCp_t, rdA_t, ob_e, bd1_e, bd2_e, bd3_e, bd4_e, bd5_e, bd6_e, bd7_e, bd8_e, bd9_e, bd10_e, bd12_e, X3_lengthOf_e]; rw [if_neg (by omega)]
theorem op_keywordByte {gv k i th : Int} {bytes len wt live : Int → Int} (hK : KW gv len bytes wt live) (h3 : -2147483648 ≤ k) (h4 : k < 2147483648) (h5 : -2147483648 ≤ i) (h6 : i < 2147483648) : ∃ r, s_X7_keywordByte gv bytes len k i = some r ∧ s_X8_keywordByte th gv len bytes k i = some (r, 0) := by
  have h1 := hK.1
  have h2 := hK.2.1
  unfold s_X7_keywordByte s_X8_keywordByte
  by_cases h : 0 ≤ k ∧ k < gv
  · have hk := hK.2.2 k h.1 h.2
    by_cases hi : i < 0
    · exact ⟨-3, by simp (disch := omega) only [cLt_t, cLt_f, cEq_t, cEq_f, cLtL_t, cLtL_f, cEqL_t, cEqL_f, cR_t, cRL_t, cZ_t, cN_t, cCp_t, rdA_t, ob_e, bd1_e, bd2_e, bd3_e, bd4_e, bd5_e, bd6_e, bd7_e, bd8_e, bd9_e, bd10_e, bd12_e, X3_isGiven_e, if_pos h], by simp (disch := omega) only [cLt_t, cLt_f, cEq_t, cEq_f, cLtL_t, cLtL_f, cEqL_t, cEqL_f, cR_t, cRL_t, cZ_t, cN_t, cCp_t, rdA_t, ob_e, bd1_e, bd2_e, bd3_e, bd4_e, bd5_e, bd6_e, bd7_e, bd8_e, bd9_e, bd10_e, bd12_e, X8_isGiven_e, if_pos h]⟩
    · by_cases hj : i < len k
      · refine ⟨bytes (16 * k + i), ?_, ?_⟩
        · simp (disch := omega) only [cLt_t, cLt_f, cEq_t, cEq_f, cLtL_t, cLtL_f, cEqL_t, cEqL_f, cR_t, cRL_t, cZ_t, cN_t, cCp_t, rdA_t, ob_e, bd1_e, bd2_e, bd3_e, bd4_e, bd5_e, bd6_e, bd7_e, bd8_e, bd9_e, bd10_e, bd12_e, X3_isGiven_e, if_pos h, X3_byteOf_e]
          rw [if_pos (by omega)]
        · simp (disch := omega) only [cLt_t, cLt_f, cEq_t, cEq_f, cLtL_t, cLtL_f, cEqL_t, cEqL_f, cR_t, cRL_t, cZ_t, cN_t, cCp_t, rdA_t, ob_e, bd1_e, bd2_e, bd3_e, bd4_e, bd5_e, bd6_e, bd7_e, bd8_e, bd9_e, bd10_e, bd12_e, X8_isGiven_e, if_pos h, X8_byteOf_e]
      · refine ⟨-1, ?_, ?_⟩
        · simp (disch := omega) only [cLt_t, cLt_f, cEq_t, cEq_f, cLtL_t, cLtL_f, cEqL_t, cEqL_f, cR_t, cRL_t, cZ_t, cN_t, cCp_t, rdA_t, ob_e, bd1_e, bd2_e, bd3_e, bd4_e, bd5_e, bd6_e, bd7_e, bd8_e, bd9_e, bd10_e, bd12_e, X3_isGiven_e, if_pos h, X3_byteOf_e]
          rw [if_neg (by omega)]
        · simp (disch := omega) only [cLt_t, cLt_f, cEq_t, cEq_f, cLtL_t, cLtL_f, cEqL_t, cEqL_f, cR_t, cRL_t, cZ_t, cN_t, cCp_t, rdA_t, ob_e, bd1_e, bd2_e, bd3_e, bd4_e, bd5_e, bd6_e, bd7_e, bd8_e, bd9_e, bd10_e, bd12_e, X8_isGiven_e, if_pos h, X8_byteOf_e]
  · exact ⟨-2, by simp (disch := omega) only [cLt_t, cLt_f, cEq_t, cEq_f, cLtL_t, cLtL_f, cEqL_t, cEqL_f, cR_t, cRL_t, cZ_t, cN_t, cCp_t, rdA_t, ob_e, bd1_e, bd2_e, bd3_e, bd4_e, bd5_e, bd6_e, bd7_e, bd8_e, bd9_e, bd10_e, bd12_e, X3_isGiven_e, if_neg h], by simp (disch := omega) only [cLt_t, cLt_f, cEq_t, cEq_f, cLtL_t, cLtL_f, cEqL_t, cEqL_f, cR_t, cRL_t, cZ_t, cN_t, cCp_t, rdA_t, ob_e, bd1_e, bd2_e, bd3_e, bd4_e, bd5_e, bd6_e, bd7_e, bd8_e, bd9_e, bd10_e, bd12_e, X8_isGiven_e, if_neg h]⟩
theorem op_isLive {gv k th : Int} {bytes len wt live : Int → Int} (hK : KW gv len bytes wt live) (h3 : -2147483648 ≤ k) (h4 : k < 2147483648) : ∃ r, s_X7_isLive gv live k = some r ∧ s_X8_isLive th gv live k = some (r, 0) := by
  have h1 := hK.1
  have h2 := hK.2.1
  unfold s_X7_isLive s_X8_isLive
  by_cases h : 0 ≤ k ∧ k < gv
  · have hk := hK.2.2 k h.1 h.2
    by_cases hl : live k = 1
    · refine ⟨1, ?_, ?_⟩
      · simp (disch := omega) only [cLt_t, cLt_f, cEq_t, cEq_f, cLtL_t, cLtL_f, cEqL_t, cEqL_f, cR_t, cRL_t, cZ_t, cN_t, cCp_t, rdA_t, ob_e, bd1_e, bd2_e, bd3_e, bd4_e, bd5_e, bd6_e, bd7_e, bd8_e, bd9_e, bd10_e, bd12_e, X3_isGiven_e, if_pos h, X3_isAlive_e]
      · simp (disch := omega) only [cLt_t, cLt_f, cEq_t, cEq_f, cLtL_t, cLtL_f, cEqL_t, cEqL_f, cR_t, cRL_t, cZ_t, cN_t, cCp_t, rdA_t, ob_e, bd1_e, bd2_e, bd3_e, bd4_e, bd5_e, bd6_e, bd7_e, bd8_e, bd9_e, bd10_e, bd12_e, X8_isGiven_e, if_pos h]
    · refine ⟨0, ?_, ?_⟩
      · simp (disch := omega) only [cLt_t, cLt_f, cEq_t, cEq_f, cLtL_t, cLtL_f, cEqL_t, cEqL_f, cR_t, cRL_t, cZ_t, cN_t, cCp_t, rdA_t, ob_e, bd1_e, bd2_e, bd3_e, bd4_e, bd5_e, bd6_e, bd7_e, bd8_e, bd9_e, bd10_e, bd12_e, X3_isGiven_e, if_pos h, X3_isAlive_e]
      · simp (disch := omega) only [cLt_t, cLt_f, cEq_t, cEq_f, cLtL_t, cLtL_f, cEqL_t, cEqL_f, cR_t, cRL_t, cZ_t, cN_t, cCp_t, rdA_t, ob_e, bd1_e, bd2_e, bd3_e, bd4_e, bd5_e, bd6_e, bd7_e, bd8_e, bd9_e, bd10_e, bd12_e, X8_isGiven_e, if_pos h]
  · exact ⟨-2, by simp (disch := omega) only [cLt_t, cLt_f, cEq_t, cEq_f, cLtL_t, cLtL_f, cEqL_t, cEqL_f, cR_t, cRL_t, cZ_t, cN_t, cCp_t, rdA_t, ob_e, bd1_e, bd2_e, bd3_e, bd4_e, bd5_e, bd6_e, bd7_e, bd8_e, bd9_e, bd10_e, bd12_e, X3_isGiven_e, if_neg h], by simp (disch := omega) only [cLt_t, cLt_f, cEq_t, cEq_f, cLtL_t, cLtL_f, cEqL_t, cEqL_f, cR_t, cRL_t, cZ_t, cN_t, cCp_t, rdA_t, ob_e, bd1_e, bd2_e, bd3_e, bd4_e, bd5_e, bd6_e, bd7_e, bd8_e, bd9_e, bd10_e, bd12_e, X8_isGiven_e, if_neg h]⟩
/-! counting the live ones -/
def cntL (live : Int → Int) : Nat → Int
  | 0 => 0
  | n + 1 => cntL live n + (if live (n : Int) = 0 then 0 else 1)
theorem cntL_rg (live : Int → Int) (n : Nat) : 0 ≤ cntL live n ∧ cntL live n ≤ n := by
  induction n with
  | zero => exact ⟨Int.le_refl _, Int.le_refl _⟩
  | succ n ih => unfold cntL; split <;> omega
theorem cntL_up {live : Int → Int} {k v : Int} {n : Nat} (h : (n : Int) ≤ k) : cntL (upA live k v) n = cntL live n := by
  induction n with
  | zero => rfl
  | succ n ih => unfold cntL; rw [ih (by omega), upA_n (by omega)]
theorem cntL_kill {live : Int → Int} {k : Int} {n : Nat} (h0 : 0 ≤ k) (h : k < (n : Int)) (hl : live k ≠ 0) : cntL (upA live k 0) n = cntL live n - 1 := by
  induction n with
  | zero => omega
  | succ n ih =>
    unfold cntL
    by_cases hk : k = (n : Int)
    · subst hk
      rw [cntL_up (Int.le_refl _), upA_s, if_pos rfl, if_neg hl]
      omega
    · rw [ih (by omega), upA_n (fun q => hk q.symm)]
      omega
theorem X8_lives_e {gv : Int} {live : Int → Int} (h1 : 0 ≤ gv) (h2 : gv ≤ 120) (hl : ∀ k, 0 ≤ k → k < gv → live k = 0 ∨ live k = 1) : s_X8_lives gv live = some (cntL live gv.toNat) := by
  have := loopR (fun fu (st : Int × Int) => s_X8_lives_4 fu gv live st.1 st.2) (fun st => (gv - st.2).toNat) (fun st => 0 ≤ st.2 ∧ st.2 ≤ gv ∧ st.1 = cntL live st.2.toNat) (fun r => r = cntL live gv.toNat) ?_ FU (0, 0) ⟨Int.le_refl _, h1, rfl⟩ (FU_lt (by show (gv - 0).toNat < _; omega))
  · obtain ⟨r, h3, h4⟩ := this
    have h3 : s_X8_lives_4 FU gv live 0 0 = some r := h3
    unfold s_X8_lives
    simp (disch := omega) only [cLt_t, cLt_f, cEq_t, cEq_f, cLtL_t, cLtL_f, cEqL_t, cEqL_f, cR_t, cRL_t, cZ_t, cN_t, cCp_t, rdA_t, ob_e, bd1_e, bd2_e, bd3_e, bd4_e, bd5_e, bd6_e, bd7_e, bd8_e, bd9_e, bd10_e, bd12_e, h3, h4]
  · intro fu ⟨c, k⟩ ⟨hk1, hk2, hc⟩
    have hk1 : 0 ≤ k := hk1
    have hk2 : k ≤ gv := hk2
    have hc : c = cntL live k.toNat := hc
    simp only [s_X8_lives_4_s]
    by_cases h : k < gv
    · right
      have e : (k + 1).toNat = k.toNat + 1 := by omega
      have e2 : ((k.toNat : Nat) : Int) = k := by omega
      rcases hl k hk1 h with q | q
      · refine ⟨(c + 0, k + 1), ⟨by show 0 ≤ k + 1; omega, by show k + 1 ≤ gv; omega, ?_⟩, by show (gv - (k + 1)).toNat < (gv - k).toNat; omega, ?_⟩
        · show c + 0 = cntL live (k + 1).toNat
          rw [e]; unfold cntL; rw [e2, if_pos q, hc]
        · simp (disch := omega) only [cLt_t, cLt_f, cEq_t, cEq_f, cLtL_t, cLtL_f, cEqL_t, cEqL_f, cR_t, cRL_t, cZ_t, cN_t, cCp_t, rdA_t, ob_e, bd1_e, bd2_e, bd3_e, bd4_e, bd5_e, bd6_e, bd7_e, bd8_e, bd9_e, bd10_e, bd12_e]
      · refine ⟨(c + 1, k + 1), ⟨by show 0 ≤ k + 1; omega, by show k + 1 ≤ gv; omega, ?_⟩, by show (gv - (k + 1)).toNat < (gv - k).toNat; omega, ?_⟩
        · show c + 1 = cntL live (k + 1).toNat
          rw [e]; unfold cntL; rw [e2, if_neg (by omega), hc]
        · simp (disch := omega) only [cLt_t, cLt_f, cEq_t, cEq_f, cLtL_t, cLtL_f, cEqL_t, cEqL_f, cR_t, cRL_t, cZ_t, cN_t, cCp_t, rdA_t, ob_e, bd1_e, bd2_e, bd3_e, bd4_e, bd5_e, bd6_e, bd7_e, bd8_e, bd9_e, bd10_e, bd12_e]
    · left
      refine ⟨c, ?_, ?_⟩
      · simp (disch := omega) only [cLt_t, cLt_f, cEq_t, cEq_f, cLtL_t, cLtL_f, cEqL_t, cEqL_f, cR_t, cRL_t, cZ_t, cN_t, cCp_t, rdA_t, ob_e, bd1_e, bd2_e, bd3_e, bd4_e, bd5_e, bd6_e, bd7_e, bd8_e, bd9_e, bd10_e, bd12_e]
      · rw [hc]; congr 1; omega
theorem op_liveCount {gv th : Int} {live : Int → Int} (h1 : 0 ≤ gv) (h2 : gv ≤ 120) (hl : ∀ k, 0 ≤ k → k < gv → live k = 0 ∨ live k = 1) : ∃ r, s_X7_liveCount (cntL live gv.toNat) = some r ∧ s_X8_liveCount th gv live = some (r, 0) :=
  ⟨_, rfl, by unfold s_X8_liveCount; simp (disch := omega) only [cLt_t, cLt_f, cEq_t, cEq_f, cLtL_t, cLtL_f, cEqL_t, cEqL_f, cR_t, cRL_t, cZ_t, cN_t, cCp_t, rdA_t, ob_e, bd1_e, bd2_e, bd3_e, bd4_e, bd5_e, bd6_e, bd7_e, bd8_e, bd9_e, bd10_e, bd12_e, X8_lives_e h1 h2 hl]⟩
theorem op_setFolding {gv th on sl v : Int} {live : Int → Int} (h1 : 0 ≤ gv) (h2 : gv ≤ 120) (hl : ∀ k, 0 ≤ k → k < gv → live k = 0 ∨ live k = 1) (o1 : 0 ≤ on) (o2 : on ≤ 1) (hs1 : 0 ≤ sl) (hs2 : sl ≤ 600) : ∃ r on2, s_X7_setFolding on (cntL live gv.toNat) sl v = some (r, on2) ∧ s_X8_setFolding th gv on sl live v = some (r, 0, on2) ∧ (on2 = on ∨ (on2 = v ∧ cntL live gv.toNat = 0 ∧ sl = 0)) := by
  have hc := cntL_rg live gv.toNat
  unfold s_X7_setFolding s_X8_setFolding
  by_cases h : 0 < cntL live gv.toNat
  · exact ⟨-7, on, by simp (disch := omega) only [cLt_t, cLt_f, cEq_t, cEq_f, cLtL_t, cLtL_f, cEqL_t, cEqL_f, cR_t, cRL_t, cZ_t, cN_t, cCp_t, rdA_t, ob_e, bd1_e, bd2_e, bd3_e, bd4_e, bd5_e, bd6_e, bd7_e, bd8_e, bd9_e, bd10_e, bd12_e], by simp (disch := omega) only [cLt_t, cLt_f, cEq_t, cEq_f, cLtL_t, cLtL_f, cEqL_t, cEqL_f, cR_t, cRL_t, cZ_t, cN_t, cCp_t, rdA_t, ob_e, bd1_e, bd2_e, bd3_e, bd4_e, bd5_e, bd6_e, bd7_e, bd8_e, bd9_e, bd10_e, bd12_e, X8_lives_e h1 h2 hl], Or.inl rfl⟩
  · by_cases h' : 0 < sl
    · exact ⟨-7, on, by simp (disch := omega) only [cLt_t, cLt_f, cEq_t, cEq_f, cLtL_t, cLtL_f, cEqL_t, cEqL_f, cR_t, cRL_t, cZ_t, cN_t, cCp_t, rdA_t, ob_e, bd1_e, bd2_e, bd3_e, bd4_e, bd5_e, bd6_e, bd7_e, bd8_e, bd9_e, bd10_e, bd12_e], by simp (disch := omega) only [cLt_t, cLt_f, cEq_t, cEq_f, cLtL_t, cLtL_f, cEqL_t, cEqL_f, cR_t, cRL_t, cZ_t, cN_t, cCp_t, rdA_t, ob_e, bd1_e, bd2_e, bd3_e, bd4_e, bd5_e, bd6_e, bd7_e, bd8_e, bd9_e, bd10_e, bd12_e, X8_lives_e h1 h2 hl], Or.inl rfl⟩
    · by_cases ho : on = 0
      · exact ⟨0, v, by simp (disch := omega) only [cLt_t, cLt_f, cEq_t, cEq_f, cLtL_t, cLtL_f, cEqL_t, cEqL_f, cR_t, cRL_t, cZ_t, cN_t, cCp_t, rdA_t, ob_e, bd1_e, bd2_e, bd3_e, bd4_e, bd5_e, bd6_e, bd7_e, bd8_e, bd9_e, bd10_e, bd12_e], by simp (disch := omega) only [cLt_t, cLt_f, cEq_t, cEq_f, cLtL_t, cLtL_f, cEqL_t, cEqL_f, cR_t, cRL_t, cZ_t, cN_t, cCp_t, rdA_t, ob_e, bd1_e, bd2_e, bd3_e, bd4_e, bd5_e, bd6_e, bd7_e, bd8_e, bd9_e, bd10_e, bd12_e, X8_lives_e h1 h2 hl], Or.inr ⟨rfl, by omega, by omega⟩⟩
      · exact ⟨1, v, by simp (disch := omega) only [cLt_t, cLt_f, cEq_t, cEq_f, cLtL_t, cLtL_f, cEqL_t, cEqL_f, cR_t, cRL_t, cZ_t, cN_t, cCp_t, rdA_t, ob_e, bd1_e, bd2_e, bd3_e, bd4_e, bd5_e, bd6_e, bd7_e, bd8_e, bd9_e, bd10_e, bd12_e], by simp (disch := omega) only [cLt_t, cLt_f, cEq_t, cEq_f, cLtL_t, cLtL_f, cEqL_t, cEqL_f, cR_t, cRL_t, cZ_t, cN_t, cCp_t, rdA_t, ob_e, bd1_e, bd2_e, bd3_e, bd4_e, bd5_e, bd6_e, bd7_e, bd8_e, bd9_e, bd10_e, bd12_e, X8_lives_e h1 h2 hl], Or.inr ⟨rfl, by omega, by omega⟩⟩
