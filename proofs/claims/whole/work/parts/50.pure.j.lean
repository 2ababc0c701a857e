/-! ===== planned work ===== -/
def PL (c : Int) (pl : Int → Int) : Prop := ∀ l, 0 ≤ l → l < 7 → pl l = szc c l
theorem X8_planned_step {c n s k : Int} {pl : Int → Int} (h1 : 0 ≤ c) (h2 : c < 127) (hP : PL c pl) : ∃ pl2 many l, s_X8_plannedWork_61 FU pl n s k 1 0 = some (pl2, many, l) ∧ 0 ≤ l ∧ l < 7 ∧ many = lowb (c + 1) ∧ PL (c + 1) (upA pl2 l many) := by
  have main := loopR (fun fu (st : (Int → Int) × Int × Int) => s_X8_plannedWork_61 fu st.1 n s k st.2.1 st.2.2) (fun st => (7 - st.2.2).toNat)
    (fun st => 0 ≤ st.2.2 ∧ st.2.2 < 7 ∧ st.2.1 = p2 st.2.2 ∧ c % p2 st.2.2 = p2 st.2.2 - 1 ∧ ∀ q, 0 ≤ q → q < 7 → st.1 q = if q < st.2.2 then 0 else szc c q)
    (fun r => 0 ≤ r.2.2 ∧ r.2.2 < 7 ∧ r.2.1 = p2 r.2.2 ∧ c % p2 r.2.2 = p2 r.2.2 - 1 ∧ (∀ q, 0 ≤ q → q < 7 → r.1 q = if q < r.2.2 then 0 else szc c q) ∧ szc c r.2.2 = 0) ?_ FU (pl, 1, 0) ⟨Int.le_refl _, by show (0 : Int) < 7; omega, rfl, by show c % 1 = 1 - 1; omega, fun q a b => by show pl q = if q < 0 then 0 else szc c q; rw [if_neg (by omega)]; exact hP q a b⟩ (FU_lt (by show ((7 : Int) - 0).toNat < _; omega))
  · obtain ⟨⟨pl2, many, l⟩, e1, j1, j2, j4, j5, j7, j8⟩ := main
    have e1 : s_X8_plannedWork_61 FU pl n s k 1 0 = some (pl2, many, l) := e1
    have j1 : 0 ≤ l := j1
    have j2 : l < 7 := j2
    have j4 : many = p2 l := j4
    have j5 : c % p2 l = p2 l - 1 := j5
    have j7 : ∀ q, 0 ≤ q → q < 7 → pl2 q = if q < l then 0 else szc c q := j7
    have j8 : szc c l = 0 := j8
    refine ⟨pl2, many, l, e1, j1, j2, ?_, ?_⟩
    · rw [(sz_step h1 h2 j1 j2 j1 j2 j5 j8).2.2.2]; exact j4
    · intro q q1 q2
      have st := sz_step h1 h2 j1 j2 q1 q2 j5 j8
      rcases Int.lt_trichotomy q l with z | z | z
      · rw [upA_n (by omega), j7 q q1 q2, if_pos z, st.1 z]
      · subst z; rw [upA_s, (st.2.1 rfl).1, j4]
      · rw [upA_n (by omega), j7 q q1 q2, if_neg (by omega), (st.2.2.1 z).1]
  · intro fu ⟨pz, many, l⟩ ⟨j1, j2, j4, j5, j7⟩
    have j1 : 0 ≤ l := j1
    have j2 : l < 7 := j2
    have j4 : many = p2 l := j4
    have j5 : c % p2 l = p2 l - 1 := j5
    have j7 : ∀ q, 0 ≤ q → q < 7 → pz q = if q < l then 0 else szc c q := j7
    have hr := sz_rg h1 (show c < 128 by omega) j1 j2
    have hp := p2_rg j1 j2
    have es : pz l = szc c l := by rw [j7 l j1 j2, if_neg (by omega)]
    simp only [s_X8_plannedWork_61_s]
    by_cases h : szc c l = 0
    · left
      exact ⟨(pz, many, l), by simp (disch := omega) only [cLt_t, cLt_f, cEq_t, cEq_f, cLtL_t, cLtL_f, cEqL_t, cEqL_f, cR_t, cRL_t, cZ_t, cN_t, cCp_t, rdA_t, ob_e, bd1_e, bd2_e, bd3_e, bd4_e, bd5_e, bd6_e, bd7_e, bd8_e, bd9_e, bd10_e, bd12_e, es], j1, j2, j4, j5, j7, h⟩
    · right
      have hg := sz_go h1 h2 j1 j2 j5 h
      refine ⟨(upA pz l 0, many + szc c l, l + 1), ⟨by show 0 ≤ l + 1; omega, by show l + 1 < 7; omega, by show many + szc c l = p2 (l + 1); omega, hg.2.2.1, fun q a b => ?_⟩, by show ((7 : Int) - (l + 1)).toNat < (7 - l).toNat; omega, ?_⟩
      · show upA pz l 0 q = if q < l + 1 then 0 else szc c q
        by_cases hq : q = l
        · subst hq; rw [upA_s, if_pos (by omega)]
        · rw [upA_n hq, j7 q a b]
          by_cases z : q < l
          · rw [if_pos z, if_pos (by omega)]
          · rw [if_neg z, if_neg (by omega)]
      · simp (disch := omega) only [cLt_t, cLt_f, cEq_t, cEq_f, cLtL_t, cLtL_f, cEqL_t, cEqL_f, cR_t, cRL_t, cZ_t, cN_t, cCp_t, rdA_t, ob_e, bd1_e, bd2_e, bd3_e, bd4_e, bd5_e, bd6_e, bd7_e, bd8_e, bd9_e, bd10_e, bd12_e, es]
theorem op_plannedWork {c n th : Int} {mem size list pl : Int → Int} (hB : BK 0 c mem size list) (h1 : 0 ≤ c) (h2 : c ≤ 80) (h3 : -2147483648 ≤ n) (h4 : n < 2147483648) : ∃ r pl2, s_X7_plannedWork c n = some r ∧ s_X8_plannedWork th size pl n = some (r, 0, pl2) := by
  unfold s_X7_plannedWork s_X8_plannedWork
  by_cases h : 0 ≤ n ∧ n ≤ 40
  · have A := loopR (fun fu (st : Int × Int) => s_X7_plannedWork_17 fu c n st.1 st.2) (fun st => (n + 1 - st.2).toNat) (fun st => 1 ≤ st.2 ∧ st.2 ≤ n + 1 ∧ st.1 = sm (fun i => lowb (c + (i : Int) + 1)) (st.2 - 1).toNat) (fun r => r = sm (fun i => lowb (c + (i : Int) + 1)) n.toNat) ?_ FU (0, 1) ⟨Int.le_refl _, by show 1 ≤ n + 1; omega, rfl⟩ (FU_lt (by show (n + 1 - 1).toNat < _; omega))
    · have P := loopR (fun fu (st : (Int → Int) × Int) => s_X8_plannedWork_22 fu size st.1 n st.2) (fun st => (7 - st.2).toNat) (fun st => 0 ≤ st.2 ∧ st.2 ≤ 7 ∧ ∀ q, 0 ≤ q → q < st.2 → st.1 q = szc c q) (fun r => PL c r) ?_ FU (pl, 0) ⟨Int.le_refl _, by show (0 : Int) ≤ 7; omega, fun q a b => by have : q < 0 := b; omega⟩ (FU_lt (by show ((7 : Int) - 0).toNat < _; omega))
      · obtain ⟨pl1, p1, p2'⟩ := P
        have p1 : s_X8_plannedWork_22 FU size pl n 0 = some pl1 := p1
        have B := loopR (fun fu (st : (Int → Int) × Int × Int) => s_X8_plannedWork_50 fu st.1 n st.2.1 st.2.2) (fun st => (n - st.2.2).toNat) (fun st => 0 ≤ st.2.2 ∧ st.2.2 ≤ n ∧ PL (c + st.2.2) st.1 ∧ st.2.1 = sm (fun i => lowb (c + (i : Int) + 1)) st.2.2.toNat) (fun r => r.2 = sm (fun i => lowb (c + (i : Int) + 1)) n.toNat) ?_ FU (pl1, 0, 0) ⟨Int.le_refl _, h.1, by show PL (c + 0) pl1; rw [Int.add_zero]; exact p2', rfl⟩ (FU_lt (by show (n - 0).toNat < _; omega))
        · obtain ⟨r, a1, a2⟩ := A
          obtain ⟨⟨pl2, r'⟩, b1, b2⟩ := B
          have a1 : s_X7_plannedWork_17 FU c n 0 1 = some r := a1
          have b1 : s_X8_plannedWork_50 FU pl1 n 0 0 = some (pl2, r') := b1
          have b2 : r' = sm (fun i => lowb (c + (i : Int) + 1)) n.toNat := b2
          have e : r' = r := by rw [a2, b2]
          subst e
          exact ⟨r', pl2, by simp (disch := omega) only [cLt_t, cLt_f, cEq_t, cEq_f, cLtL_t, cLtL_f, cEqL_t, cEqL_f, cR_t, cRL_t, cZ_t, cN_t, cCp_t, rdA_t, ob_e, bd1_e, bd2_e, bd3_e, bd4_e, bd5_e, bd6_e, bd7_e, bd8_e, bd9_e, bd10_e, bd12_e, a1], by simp (disch := omega) only [cLt_t, cLt_f, cEq_t, cEq_f, cLtL_t, cLtL_f, cEqL_t, cEqL_f, cR_t, cRL_t, cZ_t, cN_t, cCp_t, rdA_t, ob_e, bd1_e, bd2_e, bd3_e, bd4_e, bd5_e, bd6_e, bd7_e, bd8_e, bd9_e, bd10_e, bd12_e, X8_isIn_e, if_pos h, p1, b1]⟩
        · intro fu ⟨pz, t, k⟩ ⟨g1, g2, g3, g4⟩
          have g1 : 0 ≤ k := g1
          have g2 : k ≤ n := g2
          have g3 : PL (c + k) pz := g3
          have g4 : t = sm (fun i => lowb (c + (i : Int) + 1)) k.toNat := g4
          simp only [s_X8_plannedWork_50_s]
          by_cases hk : k < n
          · right
            obtain ⟨pz2, many, l, e1, e2, e3, e4, e5⟩ := X8_planned_step (n := n) (s := t) (k := k) (show 0 ≤ c + k by omega) (show c + k < 127 by omega) g3
            have es : (k + 1).toNat = k.toNat + 1 := by omega
            have ek : ((k.toNat : Nat) : Int) = k := by omega
            refine ⟨(upA pz2 l many, t + many, k + 1), ⟨by show 0 ≤ k + 1; omega, by show k + 1 ≤ n; omega, by show PL (c + (k + 1)) _; rw [show c + (k + 1) = c + k + 1 by omega]; exact e5, ?_⟩, by show (n - (k + 1)).toNat < (n - k).toNat; omega, ?_⟩
            · show t + many = sm _ (k + 1).toNat
              rw [es]; unfold sm; rw [ek, g4, e4]
            · simp (disch := omega) only [cLt_t, cLt_f, cEq_t, cEq_f, cLtL_t, cLtL_f, cEqL_t, cEqL_f, cR_t, cRL_t, cZ_t, cN_t, cCp_t, rdA_t, ob_e, bd1_e, bd2_e, bd3_e, bd4_e, bd5_e, bd6_e, bd7_e, bd8_e, bd9_e, bd10_e, bd12_e, e1]
          · left
            refine ⟨(pz, t), by simp (disch := omega) only [cLt_t, cLt_f, cEq_t, cEq_f, cLtL_t, cLtL_f, cEqL_t, cEqL_f, cR_t, cRL_t, cZ_t, cN_t, cCp_t, rdA_t, ob_e, bd1_e, bd2_e, bd3_e, bd4_e, bd5_e, bd6_e, bd7_e, bd8_e, bd9_e, bd10_e, bd12_e], ?_⟩
            show t = _
            rw [g4, show k.toNat = n.toNat by omega]
      · intro fu ⟨pz, l⟩ ⟨g1, g2, g3⟩
        have g1 : 0 ≤ l := g1
        have g2 : l ≤ 7 := g2
        have g3 : ∀ q, 0 ≤ q → q < l → pz q = szc c q := g3
        simp only [s_X8_plannedWork_22_s]
        by_cases hl : l < 7
        · right
          have hb := (hB l g1 hl).1
          rw [Int.zero_add] at hb
          refine ⟨(upA pz l (size l), l + 1), ⟨by show 0 ≤ l + 1; omega, by show l + 1 ≤ 7; omega, fun q a b => ?_⟩, by show ((7 : Int) - (l + 1)).toNat < (7 - l).toNat; omega, ?_⟩
          · show upA pz l (size l) q = _
            have b : q < l + 1 := b
            by_cases hq : q = l
            · subst hq; rw [upA_s, hb]
            · rw [upA_n hq]; exact g3 q a (by omega)
          · simp (disch := omega) only [cLt_t, cLt_f, cEq_t, cEq_f, cLtL_t, cLtL_f, cEqL_t, cEqL_f, cR_t, cRL_t, cZ_t, cN_t, cCp_t, rdA_t, ob_e, bd1_e, bd2_e, bd3_e, bd4_e, bd5_e, bd6_e, bd7_e, bd8_e, bd9_e, bd10_e, bd12_e]
        · left
          exact ⟨pz, by simp (disch := omega) only [cLt_t, cLt_f, cEq_t, cEq_f, cLtL_t, cLtL_f, cEqL_t, cEqL_f, cR_t, cRL_t, cZ_t, cN_t, cCp_t, rdA_t, ob_e, bd1_e, bd2_e, bd3_e, bd4_e, bd5_e, bd6_e, bd7_e, bd8_e, bd9_e, bd10_e, bd12_e], fun q a b => g3 q a (by omega)⟩
    · intro fu ⟨t, k⟩ ⟨g1, g2, g3⟩
      have g1 : 1 ≤ k := g1
      have g2 : k ≤ n + 1 := g2
      have g3 : t = sm (fun i => lowb (c + (i : Int) + 1)) (k - 1).toNat := g3
      simp only [s_X7_plannedWork_17_s]
      by_cases hk : n < k
      · left
        refine ⟨t, by simp (disch := omega) only [cLt_t, cLt_f, cEq_t, cEq_f, cLtL_t, cLtL_f, cEqL_t, cEqL_f, cR_t, cRL_t, cZ_t, cN_t, cCp_t, rdA_t, ob_e, bd1_e, bd2_e, bd3_e, bd4_e, bd5_e, bd6_e, bd7_e, bd8_e, bd9_e, bd10_e, bd12_e], ?_⟩
        rw [g3, show (k - 1).toNat = n.toNat by omega]
      · right
        have e1 : s_X0_storedSize (c + k) = some (lowb (c + k)) := by
          unfold s_X0_storedSize
          have := bit_low (c := c + k - 1) (by omega) (by omega)
          rw [show c + k - 1 + 1 = c + k by omega] at this
          rw [this]
        have es : (k + 1 - 1).toNat = (k - 1).toNat + 1 := by omega
        refine ⟨(t + lowb (c + k), k + 1), ⟨by show 1 ≤ k + 1; omega, by show k + 1 ≤ n + 1; omega, ?_⟩, by show (n + 1 - (k + 1)).toNat < (n + 1 - k).toNat; omega, ?_⟩
        · show t + lowb (c + k) = sm _ (k + 1 - 1).toNat
          rw [es]; unfold sm; rw [g3, show c + (((k - 1).toNat : Nat) : Int) + 1 = c + k by omega]
        · simp (disch := omega) only [cLt_t, cLt_f, cEq_t, cEq_f, cLtL_t, cLtL_f, cEqL_t, cEqL_f, cR_t, cRL_t, cZ_t, cN_t, cCp_t, rdA_t, ob_e, bd1_e, bd2_e, bd3_e, bd4_e, bd5_e, bd6_e, bd7_e, bd8_e, bd9_e, bd10_e, bd12_e, e1]
  · refine ⟨-3, pl, ?_, ?_⟩
    · by_cases z : n < 0
      · simp (disch := omega) only [cLt_t, cLt_f, cEq_t, cEq_f, cLtL_t, cLtL_f, cEqL_t, cEqL_f, cR_t, cRL_t, cZ_t, cN_t, cCp_t, rdA_t, ob_e, bd1_e, bd2_e, bd3_e, bd4_e, bd5_e, bd6_e, bd7_e, bd8_e, bd9_e, bd10_e, bd12_e]
      · simp (disch := omega) only [cLt_t, cLt_f, cEq_t, cEq_f, cLtL_t, cLtL_f, cEqL_t, cEqL_f, cR_t, cRL_t, cZ_t, cN_t, cCp_t, rdA_t, ob_e, bd1_e, bd2_e, bd3_e, bd4_e, bd5_e, bd6_e, bd7_e, bd8_e, bd9_e, bd10_e, bd12_e]
    · simp (disch := omega) only [cLt_t, cLt_f, cEq_t, cEq_f, cLtL_t, cLtL_f, cEqL_t, cEqL_f, cR_t, cRL_t, cZ_t, cN_t, cCp_t, rdA_t, ob_e, bd1_e, bd2_e, bd3_e, bd4_e, bd5_e, bd6_e, bd7_e, bd8_e, bd9_e, bd10_e, bd12_e, X8_isIn_e, if_neg h]
/-! ===== bytes of an int ===== -/
theorem bv255 : ∀ i : Fin 32, (255#32).getLsbD i.val = decide (i.val < 8) := by decide
theorem bv_and255 (x : BitVec 32) (s : Nat) (hs : s ≤ 24) : (x >>> s) &&& 255#32 = (x.sshiftRight s) &&& 255#32 := by
  apply BitVec.eq_of_getLsbD_eq
  intro i hi
  have h255 := bv255 ⟨i, hi⟩
  have h255 : (255#32).getLsbD i = decide (i < 8) := h255
  rw [BitVec.getLsbD_and, BitVec.getLsbD_and, h255]
  by_cases h : i < 8
  · rw [BitVec.getLsbD_ushiftRight, BitVec.getLsbD_sshiftRight]
    have h1 : ¬ (32 ≤ i) := by omega
    have h2 : s + i < 32 := by omega
    simp [h1, h2]
  · simp [h]
theorem bv_rg (x : BitVec 32) : (x &&& 255#32).toNat ≤ 255 := by
  rw [BitVec.toNat_and]
  exact Nat.and_le_right
