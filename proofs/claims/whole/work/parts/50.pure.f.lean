/-! ===== what is asked of the buckets ===== -/
theorem X7_isLevel_e {l : Int} (h3 : -2147483648 ≤ l) (h4 : l < 2147483648) : s_X7_isLevel l = some (if 0 ≤ l ∧ l < 7 then 1 else 0) := by
  unfold s_X7_isLevel
  by_cases h : l < 0
  · simp (disch := omega) only [cLt_t, cLt_f, cEq_t, cEq_f, cLtL_t, cLtL_f, cEqL_t, cEqL_f, cR_t, cRL_t, cZ_t, cN_t, cCp_t, rdA_t, ob_e, bd1_e, bd2_e, bd3_e, bd4_e, bd5_e, bd6_e, bd7_e, bd8_e, bd9_e, bd10_e, bd12_e]; rw [if_neg (by omega)]
  · by_cases h' : l < 7
    · simp (disch := omega) only [cLt_t, cLt_f, cEq_t, cEq_f, cLtL_t, cLtL_f, cEqL_t, cEqL_f, cR_t, cRL_t, cZ_t, cN_t, cCp_t, rdA_t, ob_e, bd1_e, bd2_e, bd3_e, bd4_e, bd5_e, bd6_e, bd7_e, bd8_e, bd9_e, bd10_e, bd12_e]; rw [if_pos (by omega)]
    · simp (disch := omega) only [cLt_t, cLt_f, cEq_t, cEq_f, cLtL_t, cLtL_f, cEqL_t, cEqL_f, cR_t, cRL_t, cZ_t, cN_t, cCp_t, rdA_t, ob_e, bd1_e, bd2_e, bd3_e, bd4_e, bd5_e, bd6_e, bd7_e, bd8_e, bd9_e, bd10_e, bd12_e]; rw [if_neg (by omega)]
theorem X8_isLevel_e {l : Int} (h3 : -2147483648 ≤ l) (h4 : l < 2147483648) : s_X8_isLevel l = some (if 0 ≤ l ∧ l < 7 then 1 else 0) := by
  unfold s_X8_isLevel
  by_cases h : 0 ≤ l ∧ l < 7
  · simp (disch := omega) only [cLt_t, cLt_f, cEq_t, cEq_f, cLtL_t, cLtL_f, cEqL_t, cEqL_f, cR_t, cRL_t, cZ_t, cN_t, cCp_t, rdA_t, ob_e, bd1_e, bd2_e, bd3_e, bd4_e, bd5_e, bd6_e, bd7_e, bd8_e, bd9_e, bd10_e, bd12_e, X8_isIn_e]
    rw [if_pos (show 0 ≤ l ∧ l ≤ 6 by omega), if_pos h]
  · simp (disch := omega) only [cLt_t, cLt_f, cEq_t, cEq_f, cLtL_t, cLtL_f, cEqL_t, cEqL_f, cR_t, cRL_t, cZ_t, cN_t, cCp_t, rdA_t, ob_e, bd1_e, bd2_e, bd3_e, bd4_e, bd5_e, bd6_e, bd7_e, bd8_e, bd9_e, bd10_e, bd12_e, X8_isIn_e]
    rw [if_neg (show ¬ (0 ≤ l ∧ l ≤ 6) by omega), if_neg h]
theorem X0_sizeAt_e {c l : Int} (h1 : 0 ≤ c) (h2 : c < 128) (h3 : 0 ≤ l) (h4 : l < 7) : s_X0_sizeAt c l = some (szc c l) := by
  unfold s_X0_sizeAt; rw [bit_sz h1 h2 h3 h4]
theorem X0_firstAt_e {c l : Int} (h1 : 0 ≤ c) (h2 : c < 128) (h3 : 0 ≤ l) (h4 : l < 7) : s_X0_firstAt c l = some (fsc c l) := by
  unfold s_X0_firstAt; rw [bit_fs h1 h2 h3 h4]
theorem X0_memberAt_e {c i : Int} {mem : Int → Int} (h1 : 0 ≤ i) (h2 : i < c) (h3 : c < 128) : s_X0_memberAt c mem i = some (mem i) := by
  unfold s_X0_memberAt
  simp (disch := omega) only [cLt_t, cLt_f, cEq_t, cEq_f, cLtL_t, cLtL_f, cEqL_t, cEqL_f, cR_t, cRL_t, cZ_t, cN_t, cCp_t, rdA_t, ob_e, bd1_e, bd2_e, bd3_e, bd4_e, bd5_e, bd6_e, bd7_e, bd8_e, bd9_e, bd10_e, bd12_e]
theorem op_mainSize {c l th : Int} {mem size list : Int → Int} (hB : BK 0 c mem size list) (h1 : 0 ≤ c) (h2 : c < 128) (h3 : -2147483648 ≤ l) (h4 : l < 2147483648) : ∃ r, s_X7_mainSize c l = some r ∧ s_X8_mainSize th size l = some (r, 0) := by
  unfold s_X7_mainSize s_X8_mainSize
  by_cases h : 0 ≤ l ∧ l < 7
  · have hb := (hB l h.1 h.2).1
    rw [Int.zero_add] at hb
    exact ⟨szc c l, by simp (disch := omega) only [cLt_t, cLt_f, cEq_t, cEq_f, cLtL_t, cLtL_f, cEqL_t, cEqL_f, cR_t, cRL_t, cZ_t, cN_t, cCp_t, rdA_t, ob_e, bd1_e, bd2_e, bd3_e, bd4_e, bd5_e, bd6_e, bd7_e, bd8_e, bd9_e, bd10_e, bd12_e, X7_isLevel_e, if_pos h, X0_sizeAt_e], by simp (disch := omega) only [cLt_t, cLt_f, cEq_t, cEq_f, cLtL_t, cLtL_f, cEqL_t, cEqL_f, cR_t, cRL_t, cZ_t, cN_t, cCp_t, rdA_t, ob_e, bd1_e, bd2_e, bd3_e, bd4_e, bd5_e, bd6_e, bd7_e, bd8_e, bd9_e, bd10_e, bd12_e, X8_isLevel_e, if_pos h, hb]⟩
  · exact ⟨-3, by simp (disch := omega) only [cLt_t, cLt_f, cEq_t, cEq_f, cLtL_t, cLtL_f, cEqL_t, cEqL_f, cR_t, cRL_t, cZ_t, cN_t, cCp_t, rdA_t, ob_e, bd1_e, bd2_e, bd3_e, bd4_e, bd5_e, bd6_e, bd7_e, bd8_e, bd9_e, bd10_e, bd12_e, X7_isLevel_e, if_neg h], by simp (disch := omega) only [cLt_t, cLt_f, cEq_t, cEq_f, cLtL_t, cLtL_f, cEqL_t, cEqL_f, cR_t, cRL_t, cZ_t, cN_t, cCp_t, rdA_t, ob_e, bd1_e, bd2_e, bd3_e, bd4_e, bd5_e, bd6_e, bd7_e, bd8_e, bd9_e, bd10_e, bd12_e, X8_isLevel_e, if_neg h]⟩
theorem op_removalSize {c l th : Int} {mem size list : Int → Int} (hB : BK 7 c mem size list) (h1 : 0 ≤ c) (h2 : c < 128) (h3 : -2147483648 ≤ l) (h4 : l < 2147483648) : ∃ r, s_X7_removalSize c l = some r ∧ s_X8_removalSize th size l = some (r, 0) := by
  unfold s_X7_removalSize s_X8_removalSize
  by_cases h : 0 ≤ l ∧ l < 7
  · have hb := (hB l h.1 h.2).1
    exact ⟨szc c l, by simp (disch := omega) only [cLt_t, cLt_f, cEq_t, cEq_f, cLtL_t, cLtL_f, cEqL_t, cEqL_f, cR_t, cRL_t, cZ_t, cN_t, cCp_t, rdA_t, ob_e, bd1_e, bd2_e, bd3_e, bd4_e, bd5_e, bd6_e, bd7_e, bd8_e, bd9_e, bd10_e, bd12_e, X7_isLevel_e, if_pos h, X0_sizeAt_e], by simp (disch := omega) only [cLt_t, cLt_f, cEq_t, cEq_f, cLtL_t, cLtL_f, cEqL_t, cEqL_f, cR_t, cRL_t, cZ_t, cN_t, cCp_t, rdA_t, ob_e, bd1_e, bd2_e, bd3_e, bd4_e, bd5_e, bd6_e, bd7_e, bd8_e, bd9_e, bd10_e, bd12_e, X8_isLevel_e, if_pos h, hb]⟩
  · exact ⟨-3, by simp (disch := omega) only [cLt_t, cLt_f, cEq_t, cEq_f, cLtL_t, cLtL_f, cEqL_t, cEqL_f, cR_t, cRL_t, cZ_t, cN_t, cCp_t, rdA_t, ob_e, bd1_e, bd2_e, bd3_e, bd4_e, bd5_e, bd6_e, bd7_e, bd8_e, bd9_e, bd10_e, bd12_e, X7_isLevel_e, if_neg h], by simp (disch := omega) only [cLt_t, cLt_f, cEq_t, cEq_f, cLtL_t, cLtL_f, cEqL_t, cEqL_f, cR_t, cRL_t, cZ_t, cN_t, cCp_t, rdA_t, ob_e, bd1_e, bd2_e, bd3_e, bd4_e, bd5_e, bd6_e, bd7_e, bd8_e, bd9_e, bd10_e, bd12_e, X8_isLevel_e, if_neg h]⟩
/-- members are numbers of keywords -/
def MB (gv c : Int) (mem : Int → Int) : Prop := ∀ i, 0 ≤ i → i < c → 0 ≤ mem i ∧ mem i < gv
def INB (c : Int) (mem : Int → Int) (l : Int) (P : Int → Prop) : Prop := ∃ i, fsc c l ≤ i ∧ i < fsc c l + szc c l ∧ P (mem i)
theorem INB.list {c l : Int} {mem size list : Int → Int} {P : Int → Prop} (hB : BK 0 c mem size list) (h3 : 0 ≤ l) (h4 : l < 7) : INB c mem l P ↔ ∃ i, 0 ≤ i ∧ i < szc c l ∧ P (list (128 * l + i)) := by
  have hb := (hB l h3 h4).2
  rw [Int.zero_add] at hb
  constructor
  · intro ⟨i, a, b, p⟩
    refine ⟨fsc c l + szc c l - 1 - i, by omega, by omega, ?_⟩
    rw [hb _ (by omega) (by omega), show fsc c l + szc c l - 1 - (fsc c l + szc c l - 1 - i) = i by omega]
    exact p
  · intro ⟨i, a, b, p⟩
    rw [hb i a b] at p
    exact ⟨_, by omega, by omega, p⟩
theorem X0_levelWith_26_e {gv c k l a b : Int} {mem : Int → Int} (hg : gv ≤ 120) (hM : MB gv c mem) (hk1 : 0 ≤ k) (hk2 : k < gv) (ha : 0 ≤ a) (hb : b ≤ c) (hab : a ≤ b) (hc : c < 128) : ∃ out, s_X0_levelWith_26 FU c mem k l b a = some out ∧ ((out = .inl l ∧ ∃ i, a ≤ i ∧ i < b ∧ mem i = k) ∨ (out = .inr () ∧ ∀ i, a ≤ i → i < b → mem i ≠ k)) := by
  refine loopR (fun fu i => s_X0_levelWith_26 fu c mem k l b i) (fun i => (b - i).toNat) (fun i => a ≤ i ∧ i ≤ b ∧ ∀ j, a ≤ j → j < i → mem j ≠ k) (fun out => (out = .inl l ∧ ∃ i, a ≤ i ∧ i < b ∧ mem i = k) ∨ (out = .inr () ∧ ∀ i, a ≤ i → i < b → mem i ≠ k)) ?_ FU a ⟨by omega, by omega, fun j x y => by omega⟩ (FU_lt (by omega))
  intro fu i ⟨g1, g2, g3⟩
  simp only [s_X0_levelWith_26_s]
  by_cases h : i < b
  · have hm := hM i (by omega) (by omega)
    by_cases he : mem i = k
    · left
      exact ⟨_, by simp (disch := omega) only [cLt_t, cLt_f, cEq_t, cEq_f, cLtL_t, cLtL_f, cEqL_t, cEqL_f, cR_t, cRL_t, cZ_t, cN_t, cCp_t, rdA_t, ob_e, bd1_e, bd2_e, bd3_e, bd4_e, bd5_e, bd6_e, bd7_e, bd8_e, bd9_e, bd10_e, bd12_e, X0_memberAt_e], Or.inl ⟨rfl, i, g1, h, he⟩⟩
    · right
      refine ⟨i + 1, ⟨by omega, by omega, fun j x y => ?_⟩, by omega, ?_⟩
      · by_cases hj : j = i
        · subst hj; exact he
        · exact g3 j x (by omega)
      · simp (disch := omega) only [cLt_t, cLt_f, cEq_t, cEq_f, cLtL_t, cLtL_f, cEqL_t, cEqL_f, cR_t, cRL_t, cZ_t, cN_t, cCp_t, rdA_t, ob_e, bd1_e, bd2_e, bd3_e, bd4_e, bd5_e, bd6_e, bd7_e, bd8_e, bd9_e, bd10_e, bd12_e, X0_memberAt_e]
  · left
    exact ⟨_, by simp (disch := omega) only [cLt_t, cLt_f, cEq_t, cEq_f, cLtL_t, cLtL_f, cEqL_t, cEqL_f, cR_t, cRL_t, cZ_t, cN_t, cCp_t, rdA_t, ob_e, bd1_e, bd2_e, bd3_e, bd4_e, bd5_e, bd6_e, bd7_e, bd8_e, bd9_e, bd10_e, bd12_e], Or.inr ⟨rfl, fun j x y => g3 j x (by omega)⟩⟩
theorem X0_levelWith_e {gv c k : Int} {mem : Int → Int} (hg : gv ≤ 120) (hM : MB gv c mem) (hk1 : 0 ≤ k) (hk2 : k < gv) (hc0 : 0 ≤ c) (hc : c < 128) : ∃ r, s_X0_levelWith c mem k = some r ∧ FD (fun l => INB c mem l (fun x => x = k)) 7 r := by
  unfold s_X0_levelWith
  refine loopR (fun fu l => s_X0_levelWith_2 fu c mem k l) (fun l => (7 - l).toNat) (fun l => 0 ≤ l ∧ l ≤ 7 ∧ ∀ j, 0 ≤ j → j < l → ¬ INB c mem j (fun x => x = k)) (fun r => FD (fun l => INB c mem l (fun x => x = k)) 7 r) ?_ FU 0 ⟨by omega, by omega, fun j x y => by omega⟩ (FU_lt (by omega))
  intro fu l ⟨g1, g2, g3⟩
  simp only [s_X0_levelWith_2_s]
  by_cases h : l < 7
  · have hr := sz_rg hc0 hc g1 h
    obtain ⟨out, e1, e2⟩ := X0_levelWith_26_e (l := l) (a := fsc c l) (b := fsc c l + szc c l) hg hM hk1 hk2 (by omega) (by omega) (by omega) hc
    rcases e2 with ⟨rfl, i, a, b, e⟩ | ⟨rfl, e⟩
    · left
      refine ⟨l, ?_, Or.inr ⟨g1, h, ⟨i, a, b, e⟩, g3⟩⟩
      simp (disch := omega) only [cLt_t, cLt_f, cEq_t, cEq_f, cLtL_t, cLtL_f, cEqL_t, cEqL_f, cR_t, cRL_t, cZ_t, cN_t, cCp_t, rdA_t, ob_e, bd1_e, bd2_e, bd3_e, bd4_e, bd5_e, bd6_e, bd7_e, bd8_e, bd9_e, bd10_e, bd12_e, X0_firstAt_e, X0_sizeAt_e, e1]
      rfl
    · right
      refine ⟨l + 1, ⟨by omega, by omega, fun j x y => ?_⟩, by omega, ?_⟩
      · by_cases hj : j = l
        · subst hj; intro ⟨i, a, b, z⟩; exact e i a b z
        · exact g3 j x (by omega)
      · simp (disch := omega) only [cLt_t, cLt_f, cEq_t, cEq_f, cLtL_t, cLtL_f, cEqL_t, cEqL_f, cR_t, cRL_t, cZ_t, cN_t, cCp_t, rdA_t, ob_e, bd1_e, bd2_e, bd3_e, bd4_e, bd5_e, bd6_e, bd7_e, bd8_e, bd9_e, bd10_e, bd12_e, X0_firstAt_e, X0_sizeAt_e, e1]
        rfl
  · left
    exact ⟨-1, by simp (disch := omega) only [cLt_t, cLt_f, cEq_t, cEq_f, cLtL_t, cLtL_f, cEqL_t, cEqL_f, cR_t, cRL_t, cZ_t, cN_t, cCp_t, rdA_t, ob_e, bd1_e, bd2_e, bd3_e, bd4_e, bd5_e, bd6_e, bd7_e, bd8_e, bd9_e, bd10_e, bd12_e], Or.inl ⟨rfl, fun j x y => g3 j x (by omega)⟩⟩
theorem X8_levelFound_10_e {gv c k l : Int} {mem size list : Int → Int} (hB : BK 0 c mem size list) (hg : gv ≤ 120) (hM : MB gv c mem) (hk1 : 0 ≤ k) (hk2 : k < gv) (hc0 : 0 ≤ c) (hc : c < 128) (hl1 : 0 ≤ l) (hl2 : l < 7) : ∃ out, s_X8_levelFound_10 FU size list k l 0 = some out ∧ ((out = .inl l ∧ INB c mem l (fun x => x = k)) ∨ (out = .inr () ∧ ¬ INB c mem l (fun x => x = k))) := by
  have hr := sz_rg hc0 hc hl1 hl2
  have hp := p2_rg hl1 hl2
  have hb := hB l hl1 hl2
  rw [Int.zero_add] at hb
  have := loopR (fun fu i => s_X8_levelFound_10 fu size list k l i) (fun i => (szc c l - i).toNat) (fun i => 0 ≤ i ∧ i ≤ szc c l ∧ ∀ j, 0 ≤ j → j < i → list (128 * l + j) ≠ k) (fun out => (out = .inl l ∧ ∃ i, 0 ≤ i ∧ i < szc c l ∧ list (128 * l + i) = k) ∨ (out = .inr () ∧ ∀ i, 0 ≤ i → i < szc c l → list (128 * l + i) ≠ k)) ?_ FU 0 ⟨by omega, by omega, fun j x y => by omega⟩ (FU_lt (by omega))
  · obtain ⟨out, e1, e2⟩ := this
    refine ⟨out, e1, ?_⟩
    rcases e2 with ⟨q, e⟩ | ⟨q, e⟩
    · exact Or.inl ⟨q, (INB.list hB hl1 hl2).mpr e⟩
    · exact Or.inr ⟨q, fun z => by obtain ⟨i, a, b, z⟩ := (INB.list hB hl1 hl2).mp z; exact e i a b z⟩
  · intro fu i ⟨g1, g2, g3⟩
    simp only [s_X8_levelFound_10_s]
    by_cases h : i < szc c l
    · have hm := hM (fsc c l + szc c l - 1 - i) (by omega) (by omega)
      have hv := hb.2 i g1 h
      by_cases he : list (128 * l + i) = k
      · left
        exact ⟨_, by simp (disch := omega) only [cLt_t, cLt_f, cEq_t, cEq_f, cLtL_t, cLtL_f, cEqL_t, cEqL_f, cR_t, cRL_t, cZ_t, cN_t, cCp_t, rdA_t, ob_e, bd1_e, bd2_e, bd3_e, bd4_e, bd5_e, bd6_e, bd7_e, bd8_e, bd9_e, bd10_e, bd12_e, hb.1], Or.inl ⟨rfl, i, g1, h, he⟩⟩
      · right
        refine ⟨i + 1, ⟨by omega, by omega, fun j x y => ?_⟩, by omega, ?_⟩
        · by_cases hj : j = i
          · subst hj; exact he
          · exact g3 j x (by omega)
        · simp (disch := omega) only [cLt_t, cLt_f, cEq_t, cEq_f, cLtL_t, cLtL_f, cEqL_t, cEqL_f, cR_t, cRL_t, cZ_t, cN_t, cCp_t, rdA_t, ob_e, bd1_e, bd2_e, bd3_e, bd4_e, bd5_e, bd6_e, bd7_e, bd8_e, bd9_e, bd10_e, bd12_e, hb.1]
    · left
      exact ⟨_, by simp (disch := omega) only [cLt_t, cLt_f, cEq_t, cEq_f, cLtL_t, cLtL_f, cEqL_t, cEqL_f, cR_t, cRL_t, cZ_t, cN_t, cCp_t, rdA_t, ob_e, bd1_e, bd2_e, bd3_e, bd4_e, bd5_e, bd6_e, bd7_e, bd8_e, bd9_e, bd10_e, bd12_e, hb.1], Or.inr ⟨rfl, fun j x y => g3 j x (by omega)⟩⟩
theorem X8_levelFound_e {gv c k : Int} {mem size list : Int → Int} (hB : BK 0 c mem size list) (hg : gv ≤ 120) (hM : MB gv c mem) (hk1 : 0 ≤ k) (hk2 : k < gv) (hc0 : 0 ≤ c) (hc : c < 128) : ∃ r, s_X8_levelFound size list k = some r ∧ FD (fun l => INB c mem l (fun x => x = k)) 7 r := by
  unfold s_X8_levelFound
  refine loopR (fun fu l => s_X8_levelFound_2 fu size list k l) (fun l => (7 - l).toNat) (fun l => 0 ≤ l ∧ l ≤ 7 ∧ ∀ j, 0 ≤ j → j < l → ¬ INB c mem j (fun x => x = k)) (fun r => FD (fun l => INB c mem l (fun x => x = k)) 7 r) ?_ FU 0 ⟨by omega, by omega, fun j x y => by omega⟩ (FU_lt (by omega))
  intro fu l ⟨g1, g2, g3⟩
  simp only [s_X8_levelFound_2_s]
  by_cases h : l < 7
  · obtain ⟨out, e1, e2⟩ := X8_levelFound_10_e hB hg hM hk1 hk2 hc0 hc g1 h
    rcases e2 with ⟨rfl, e⟩ | ⟨rfl, e⟩
    · left
      refine ⟨l, ?_, Or.inr ⟨g1, h, e, g3⟩⟩
      simp (disch := omega) only [cLt_t, cLt_f, cEq_t, cEq_f, cLtL_t, cLtL_f, cEqL_t, cEqL_f, cR_t, cRL_t, cZ_t, cN_t, cCp_t, rdA_t, ob_e, bd1_e, bd2_e, bd3_e, bd4_e, bd5_e, bd6_e, bd7_e, bd8_e, bd9_e, bd10_e, bd12_e, e1]
      rfl
    · right
      refine ⟨l + 1, ⟨by omega, by omega, fun j x y => ?_⟩, by omega, ?_⟩
      · by_cases hj : j = l
        · subst hj; exact e
        · exact g3 j x (by omega)
      · simp (disch := omega) only [cLt_t, cLt_f, cEq_t, cEq_f, cLtL_t, cLtL_f, cEqL_t, cEqL_f, cR_t, cRL_t, cZ_t, cN_t, cCp_t, rdA_t, ob_e, bd1_e, bd2_e, bd3_e, bd4_e, bd5_e, bd6_e, bd7_e, bd8_e, bd9_e, bd10_e, bd12_e, e1]
        rfl
  · left
    exact ⟨-1, by simp (disch := omega) only [cLt_t, cLt_f, cEq_t, cEq_f, cLtL_t, cLtL_f, cEqL_t, cEqL_f, cR_t, cRL_t, cZ_t, cN_t, cCp_t, rdA_t, ob_e, bd1_e, bd2_e, bd3_e, bd4_e, bd5_e, bd6_e, bd7_e, bd8_e, bd9_e, bd10_e, bd12_e], Or.inl ⟨rfl, fun j x y => g3 j x (by omega)⟩⟩
theorem op_levelOf {gv c k th : Int} {mem size list : Int → Int} (hB : BK 0 c mem size list) (hg0 : 0 ≤ gv) (hg : gv ≤ 120) (hM : MB gv c mem) (hc0 : 0 ≤ c) (hc : c < 128) (h3 : -2147483648 ≤ k) (h4 : k < 2147483648) : ∃ r, s_X7_levelOf gv c mem k = some r ∧ s_X8_levelOf th gv size list k = some (r, 0) := by
  unfold s_X7_levelOf s_X8_levelOf
  by_cases h : 0 ≤ k ∧ k < gv
  · obtain ⟨r, a1, a2⟩ := X0_levelWith_e hg hM h.1 h.2 hc0 hc
    obtain ⟨s, b1, b2⟩ := X8_levelFound_e hB hg hM h.1 h.2 hc0 hc
    have e := a2.uniq b2
    subst e
    exact ⟨r, by simp (disch := omega) only [cLt_t, cLt_f, cEq_t, cEq_f, cLtL_t, cLtL_f, cEqL_t, cEqL_f, cR_t, cRL_t, cZ_t, cN_t, cCp_t, rdA_t, ob_e, bd1_e, bd2_e, bd3_e, bd4_e, bd5_e, bd6_e, bd7_e, bd8_e, bd9_e, bd10_e, bd12_e, X3_isGiven_e, if_pos h, a1], by simp (disch := omega) only [cLt_t, cLt_f, cEq_t, cEq_f, cLtL_t, cLtL_f, cEqL_t, cEqL_f, cR_t, cRL_t, cZ_t, cN_t, cCp_t, rdA_t, ob_e, bd1_e, bd2_e, bd3_e, bd4_e, bd5_e, bd6_e, bd7_e, bd8_e, bd9_e, bd10_e, bd12_e, X8_isGiven_e, if_pos h, b1]⟩
  · exact ⟨-2, by simp (disch := omega) only [cLt_t, cLt_f, cEq_t, cEq_f, cLtL_t, cLtL_f, cEqL_t, cEqL_f, cR_t, cRL_t, cZ_t, cN_t, cCp_t, rdA_t, ob_e, bd1_e, bd2_e, bd3_e, bd4_e, bd5_e, bd6_e, bd7_e, bd8_e, bd9_e, bd10_e, bd12_e, X3_isGiven_e, if_neg h], by simp (disch := omega) only [cLt_t, cLt_f, cEq_t, cEq_f, cLtL_t, cLtL_f, cEqL_t, cEqL_f, cR_t, cRL_t, cZ_t, cN_t, cCp_t, rdA_t, ob_e, bd1_e, bd2_e, bd3_e, bd4_e, bd5_e, bd6_e, bd7_e, bd8_e, bd9_e, bd10_e, bd12_e, X8_isGiven_e, if_neg h]⟩
/-- the largest number up to m with a property, or 0 -/
def DN (Q : Int → Prop) (m r : Int) : Prop := (r = 0 ∧ ∀ n, 1 ≤ n → n ≤ m → ¬ Q n) ∨ (1 ≤ r ∧ r ≤ m ∧ Q r ∧ ∀ n, r < n → n ≤ m → ¬ Q n)
theorem DN.uniq {Q : Int → Prop} {m r s : Int} (h : DN Q m r) (g : DN Q m s) : r = s := by
  rcases h with ⟨h1, h2⟩ | ⟨h1, h2, h3, h4⟩ <;> rcases g with ⟨g1, g2⟩ | ⟨g1, g2, g3, g4⟩
  · omega
  · exact absurd g3 (h2 s g1 g2)
  · exact absurd h3 (g2 r h1 h2)
  · rcases Int.lt_trichotomy r s with q | q | q
    · exact absurd g3 (h4 s q g2)
    · exact q
    · exact absurd h3 (g4 r q h2)
theorem DN.congr {P Q : Int → Prop} {m r : Int} (h : DN P m r) (e : ∀ n, 1 ≤ n → n ≤ m → (P n ↔ Q n)) : DN Q m r := by
  rcases h with ⟨h1, h2⟩ | ⟨h1, h2, h3, h4⟩
  · exact Or.inl ⟨h1, fun n a b q => h2 n a b ((e n a b).mpr q)⟩
  · exact Or.inr ⟨h1, h2, (e r h1 h2).mp h3, fun n a b q => h4 n a b ((e n (by omega) b).mpr q)⟩
/-- the first n bytes of keyword x stand in a text from a place on -/
def PF (on : Int) (len bytes txt : Int → Int) (p n x : Int) : Prop := n ≤ len x ∧ RE on bytes (16 * x) txt p n
theorem X3_startsWith_e {m : Nat} {gv on k p n : Int} {len bytes wt live txt : Int → Int} (hK : KW gv len bytes wt live) (o1 : 0 ≤ on) (o2 : on ≤ 1) (hm : m ≤ 100000) (hk1 : 0 ≤ k) (hk2 : k < gv) (hp : 0 ≤ p) (hn1 : 0 ≤ n) (hn2 : p + n ≤ (m : Int)) (hT : RB txt p n) : ∃ r, s_X3_startsWith m gv on bytes len txt k p n = some r ∧ BB r (PF on len bytes txt p n k) := by
  have hg := hK.2.1
  have hk := hK.2.2 k hk1 hk2
  unfold s_X3_startsWith
  by_cases h : len k < n
  · refine ⟨0, ?_, Or.inr ⟨rfl, fun q => by have := q.1; omega⟩⟩
    simp (disch := omega) only [cLt_t, cLt_f, cEq_t, cEq_f, cLtL_t, cLtL_f, cEqL_t, cEqL_f, cR_t, cRL_t, cZ_t, cN_t, cCp_t, rdA_t, ob_e, bd1_e, bd2_e, bd3_e, bd4_e, bd5_e, bd6_e, bd7_e, bd8_e, bd9_e, bd10_e, bd12_e, X3_lengthOf_e]
  · obtain ⟨r, h1, h2⟩ := X2_same_e (m0 := 1920) (m2 := m) (on := on) (a := 16 * k) (b := p) (n := n) (f := bytes) (g := txt) o1 o2 (by omega) hm hn1 (by omega) (by omega) hp (by omega) hn2 (hK.rb hk1 hk2 (by omega)) hT
    rcases h2 with ⟨h2, h3⟩ | ⟨h2, h3⟩
    · refine ⟨1, ?_, Or.inl ⟨rfl, by omega, h3⟩⟩
      simp (disch := omega) only [cLt_t, cLt_f, cEq_t, cEq_f, cLtL_t, cLtL_f, cEqL_t, cEqL_f, cR_t, cRL_t, cZ_t, cN_t, cCp_t, rdA_t, ob_e, bd1_e, bd2_e, bd3_e, bd4_e, bd5_e, bd6_e, bd7_e, bd8_e, bd9_e, bd10_e, bd12_e, X3_lengthOf_e, X3_firstByteOf_e, h1]
    · refine ⟨0, ?_, Or.inr ⟨rfl, fun q => h3 q.2⟩⟩
      simp (disch := omega) only [cLt_t, cLt_f, cEq_t, cEq_f, cLtL_t, cLtL_f, cEqL_t, cEqL_f, cR_t, cRL_t, cZ_t, cN_t, cCp_t, rdA_t, ob_e, bd1_e, bd2_e, bd3_e, bd4_e, bd5_e, bd6_e, bd7_e, bd8_e, bd9_e, bd10_e, bd12_e, X3_lengthOf_e, X3_firstByteOf_e, h1]
theorem X7_isPrefixInBucket_e {m : Nat} {gv on c l p n : Int} {len bytes wt live txt mem : Int → Int} (hK : KW gv len bytes wt live) (o1 : 0 ≤ on) (o2 : on ≤ 1) (hm : m ≤ 100000) (hM : MB gv c mem) (hc0 : 0 ≤ c) (hc : c < 128) (hl1 : 0 ≤ l) (hl2 : l < 7) (hp : 0 ≤ p) (hn1 : 0 ≤ n) (hn2 : p + n ≤ (m : Int)) (hT : RB txt p n) : ∃ r, s_X7_isPrefixInBucket m on gv bytes len c mem txt l p n = some r ∧ BB r (INB c mem l (PF on len bytes txt p n)) := by
  have hr := sz_rg hc0 hc hl1 hl2
  unfold s_X7_isPrefixInBucket
  have := loopR (fun fu i => s_X7_isPrefixInBucket_27 m fu on gv bytes len c mem txt p n (fsc c l + szc c l) i) (fun i => (fsc c l + szc c l - i).toNat) (fun i => fsc c l ≤ i ∧ i ≤ fsc c l + szc c l ∧ ∀ j, fsc c l ≤ j → j < i → ¬ PF on len bytes txt p n (mem j)) (fun r => BB r (INB c mem l (PF on len bytes txt p n))) ?_ FU (fsc c l) ⟨by omega, by omega, fun j x y => by omega⟩ (FU_lt (by omega))
  · obtain ⟨r, e1, e2⟩ := this
    have e1 : s_X7_isPrefixInBucket_27 m FU on gv bytes len c mem txt p n (fsc c l + szc c l) (fsc c l) = some r := e1
    exact ⟨r, by simp (disch := omega) only [cLt_t, cLt_f, cEq_t, cEq_f, cLtL_t, cLtL_f, cEqL_t, cEqL_f, cR_t, cRL_t, cZ_t, cN_t, cCp_t, rdA_t, ob_e, bd1_e, bd2_e, bd3_e, bd4_e, bd5_e, bd6_e, bd7_e, bd8_e, bd9_e, bd10_e, bd12_e, X0_firstAt_e, X0_sizeAt_e, e1], e2⟩
  · intro fu i ⟨g1, g2, g3⟩
    simp only [s_X7_isPrefixInBucket_27_s]
    by_cases h : i < fsc c l + szc c l
    · have hi := hM i (by omega) (by omega)
      obtain ⟨r, e1, e2⟩ := X3_startsWith_e (m := m) (txt := txt) (k := mem i) (p := p) (n := n) hK o1 o2 hm hi.1 hi.2 hp hn1 hn2 hT
      rcases e2 with ⟨q1, q2⟩ | ⟨q1, q2⟩
      · left
        refine ⟨1, ?_, Or.inl ⟨rfl, i, g1, h, q2⟩⟩
        simp (disch := omega) only [cLt_t, cLt_f, cEq_t, cEq_f, cLtL_t, cLtL_f, cEqL_t, cEqL_f, cR_t, cRL_t, cZ_t, cN_t, cCp_t, rdA_t, ob_e, bd1_e, bd2_e, bd3_e, bd4_e, bd5_e, bd6_e, bd7_e, bd8_e, bd9_e, bd10_e, bd12_e, X0_memberAt_e, e1]
      · right
        refine ⟨i + 1, ⟨by omega, by omega, fun j x y => ?_⟩, by omega, ?_⟩
        · by_cases hj : j = i
          · subst hj; exact q2
          · exact g3 j x (by omega)
        · simp (disch := omega) only [cLt_t, cLt_f, cEq_t, cEq_f, cLtL_t, cLtL_f, cEqL_t, cEqL_f, cR_t, cRL_t, cZ_t, cN_t, cCp_t, rdA_t, ob_e, bd1_e, bd2_e, bd3_e, bd4_e, bd5_e, bd6_e, bd7_e, bd8_e, bd9_e, bd10_e, bd12_e, X0_memberAt_e, e1]
    · left
      refine ⟨0, ?_, Or.inr ⟨rfl, fun ⟨j, x, y, z⟩ => g3 j x (by omega) z⟩⟩
      simp (disch := omega) only [cLt_t, cLt_f, cEq_t, cEq_f, cLtL_t, cLtL_f, cEqL_t, cEqL_f, cR_t, cRL_t, cZ_t, cN_t, cCp_t, rdA_t, ob_e, bd1_e, bd2_e, bd3_e, bd4_e, bd5_e, bd6_e, bd7_e, bd8_e, bd9_e, bd10_e, bd12_e]
theorem X7_longestPrefixBefore_e {m : Nat} {gv on c l e most : Int} {len bytes wt live txt mem : Int → Int} (hK : KW gv len bytes wt live) (o1 : 0 ≤ on) (o2 : on ≤ 1) (hm : m ≤ 100000) (hM : MB gv c mem) (hc0 : 0 ≤ c) (hc : c < 128) (hl1 : 0 ≤ l) (hl2 : l < 7) (hn1 : 0 ≤ most) (hn3 : most ≤ 16) (he1 : most ≤ e) (he2 : e ≤ (m : Int)) (hT : RB txt (e - most) most) : ∃ r, s_X7_longestPrefixBefore m on gv bytes len c mem txt l e most = some r ∧ DN (fun n => INB c mem l (PF on len bytes txt (e - n) n)) most r := by
  unfold s_X7_longestPrefixBefore
  refine loopR (fun fu n => s_X7_longestPrefixBefore_4 m fu on gv bytes len c mem txt l e n) (fun n => n.toNat) (fun n => 0 ≤ n ∧ n ≤ most ∧ ∀ j, n < j → j ≤ most → ¬ INB c mem l (PF on len bytes txt (e - j) j)) (fun r => DN (fun n => INB c mem l (PF on len bytes txt (e - n) n)) most r) ?_ FU most ⟨by omega, by omega, fun j x y => by omega⟩ (FU_lt (by omega))
  intro fu n ⟨g1, g2, g3⟩
  simp only [s_X7_longestPrefixBefore_4_s]
  by_cases h : 0 < n
  · obtain ⟨r, e1, e2⟩ := X7_isPrefixInBucket_e (m := m) (txt := txt) (mem := mem) (c := c) (l := l) (p := e - n) (n := n) hK o1 o2 hm hM hc0 hc hl1 hl2 (by omega) (by omega) (by omega) (fun j a b => by have := hT (most - n + j) (by omega) (by omega); rw [show e - most + (most - n + j) = e - n + j by omega] at this; exact this)
    rcases e2 with ⟨q1, q2⟩ | ⟨q1, q2⟩
    · left
      refine ⟨n, ?_, Or.inr ⟨by omega, g2, q2, g3⟩⟩
      simp (disch := omega) only [cLt_t, cLt_f, cEq_t, cEq_f, cLtL_t, cLtL_f, cEqL_t, cEqL_f, cR_t, cRL_t, cZ_t, cN_t, cCp_t, rdA_t, ob_e, bd1_e, bd2_e, bd3_e, bd4_e, bd5_e, bd6_e, bd7_e, bd8_e, bd9_e, bd10_e, bd12_e, e1]
    · right
      refine ⟨n + -1, ⟨by omega, by omega, fun j x y => ?_⟩, by omega, ?_⟩
      · by_cases hj : j = n
        · subst hj; exact q2
        · exact g3 j (by omega) y
      · simp (disch := omega) only [cLt_t, cLt_f, cEq_t, cEq_f, cLtL_t, cLtL_f, cEqL_t, cEqL_f, cR_t, cRL_t, cZ_t, cN_t, cCp_t, rdA_t, ob_e, bd1_e, bd2_e, bd3_e, bd4_e, bd5_e, bd6_e, bd7_e, bd8_e, bd9_e, bd10_e, bd12_e, e1]
  · left
    refine ⟨0, ?_, Or.inl ⟨rfl, fun j x y => g3 j (by omega) y⟩⟩
    simp (disch := omega) only [cLt_t, cLt_f, cEq_t, cEq_f, cLtL_t, cLtL_f, cEqL_t, cEqL_f, cR_t, cRL_t, cZ_t, cN_t, cCp_t, rdA_t, ob_e, bd1_e, bd2_e, bd3_e, bd4_e, bd5_e, bd6_e, bd7_e, bd8_e, bd9_e, bd10_e, bd12_e]
