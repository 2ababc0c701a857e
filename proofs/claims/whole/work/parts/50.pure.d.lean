/-! ===== searching ===== -/
/-- the first place with a property, or -1 -/
def FD (P : Int → Prop) (n r : Int) : Prop := (r = -1 ∧ ∀ k, 0 ≤ k → k < n → ¬ P k) ∨ (0 ≤ r ∧ r < n ∧ P r ∧ ∀ k, 0 ≤ k → k < r → ¬ P k)
theorem FD.uniq {P : Int → Prop} {n r s : Int} (h : FD P n r) (g : FD P n s) : r = s := by
  rcases h with ⟨h1, h2⟩ | ⟨h1, h2, h3, h4⟩ <;> rcases g with ⟨g1, g2⟩ | ⟨g1, g2, g3, g4⟩
  · omega
  · exact absurd g3 (h2 s g1 g2)
  · exact absurd h3 (g2 r h1 h2)
  · rcases Int.lt_trichotomy r s with q | q | q
    · exact absurd h3 (g4 r h1 q)
    · exact q
    · exact absurd g3 (h4 s g1 q)
theorem FD.rg {P : Int → Prop} {n r : Int} (h : FD P n r) (hn : 0 ≤ n) : -1 ≤ r ∧ r ≤ n := by
  rcases h with ⟨h1, h2⟩ | ⟨h1, h2, h3, h4⟩ <;> omega
theorem FD.congr {P Q : Int → Prop} {n r : Int} (h : FD P n r) (e : ∀ k, 0 ≤ k → k < n → (P k ↔ Q k)) : FD Q n r := by
  rcases h with ⟨h1, h2⟩ | ⟨h1, h2, h3, h4⟩
  · exact Or.inl ⟨h1, fun k a b q => h2 k a b ((e k a b).mpr q)⟩
  · exact Or.inr ⟨h1, h2, (e r h1 h2).mp h3, fun k a b q => h4 k a b ((e k a (by omega)).mpr q)⟩
theorem X3_standsAt_e {m : Nat} {gv on tl k p : Int} {len bytes wt live tb : Int → Int} (hK : KW gv len bytes wt live) (o1 : 0 ≤ on) (o2 : on ≤ 1) (hm : m ≤ 100000) (hk1 : 0 ≤ k) (hk2 : k < gv) (ht1 : 0 ≤ tl) (ht2 : tl ≤ (m : Int)) (hT : RB tb 0 tl) (hp1 : -100000 ≤ p) (hp2 : p ≤ 100000) : ∃ r, s_X3_standsAt m gv on bytes len tl tb k p = some r ∧ BB r (0 ≤ p ∧ p + len k ≤ tl ∧ RE on bytes (16 * k) tb p (len k)) := by
  have hg := hK.2.1
  have hk := hK.2.2 k hk1 hk2
  unfold s_X3_standsAt
  by_cases h : p < 0
  · refine ⟨0, ?_, Or.inr ⟨rfl, fun q => by omega⟩⟩
    simp (disch := omega) only [cLt_t, cLt_f, cEq_t, cEq_f, cLtL_t, cLtL_f, cEqL_t, cEqL_f, cR_t, cRL_t, cZ_t, cN_t, cCp_t, rdA_t, ob_e, bd1_e, bd2_e, bd3_e, bd4_e, bd5_e, bd6_e, bd7_e, bd8_e, bd9_e, bd10_e, bd12_e, X3_lengthOf_e]
  · by_cases h' : tl - len k < p
    · refine ⟨0, ?_, Or.inr ⟨rfl, fun q => by omega⟩⟩
      simp (disch := omega) only [cLt_t, cLt_f, cEq_t, cEq_f, cLtL_t, cLtL_f, cEqL_t, cEqL_f, cR_t, cRL_t, cZ_t, cN_t, cCp_t, rdA_t, ob_e, bd1_e, bd2_e, bd3_e, bd4_e, bd5_e, bd6_e, bd7_e, bd8_e, bd9_e, bd10_e, bd12_e, X3_lengthOf_e]
    · obtain ⟨r, h1, h2⟩ := X2_same_e (m0 := 1920) (m2 := m) (on := on) (a := 16 * k) (b := p) (n := len k) (f := bytes) (g := tb) o1 o2 (by omega) hm (by omega) (by omega) (by omega) (by omega) (by omega) (by omega) (hK.rb hk1 hk2 (by omega)) (fun j a b => by have := hT (p + j) (by omega) (by omega); rw [Int.zero_add] at this; exact this)
      have hr := BB_rg h2
      rcases h2 with ⟨h2, h3⟩ | ⟨h2, h3⟩
      · refine ⟨1, ?_, Or.inl ⟨rfl, by omega, by omega, h3⟩⟩
        simp (disch := omega) only [cLt_t, cLt_f, cEq_t, cEq_f, cLtL_t, cLtL_f, cEqL_t, cEqL_f, cR_t, cRL_t, cZ_t, cN_t, cCp_t, rdA_t, ob_e, bd1_e, bd2_e, bd3_e, bd4_e, bd5_e, bd6_e, bd7_e, bd8_e, bd9_e, bd10_e, bd12_e, X3_lengthOf_e, X3_firstByteOf_e, h1]
      · refine ⟨0, ?_, Or.inr ⟨rfl, fun q => h3 q.2.2⟩⟩
        simp (disch := omega) only [cLt_t, cLt_f, cEq_t, cEq_f, cLtL_t, cLtL_f, cEqL_t, cEqL_f, cR_t, cRL_t, cZ_t, cN_t, cCp_t, rdA_t, ob_e, bd1_e, bd2_e, bd3_e, bd4_e, bd5_e, bd6_e, bd7_e, bd8_e, bd9_e, bd10_e, bd12_e, X3_lengthOf_e, X3_firstByteOf_e, h1]
def PB (on n : Int) (len bytes live buf : Int → Int) (k : Int) : Prop := live k = 1 ∧ len k = n ∧ RE on bytes (16 * k) buf 0 n
theorem X3_findAlive_e {m : Nat} {gv on tl n : Int} {len bytes wt live tb : Int → Int} (hK : KW gv len bytes wt live) (o1 : 0 ≤ on) (o2 : on ≤ 1) (hm : m ≤ 100000) (ht1 : 0 ≤ tl) (ht2 : tl ≤ (m : Int)) (hT : RB tb 0 tl) (hn1 : 0 ≤ n) (hn2 : n ≤ tl) : ∃ r, s_X3_findAlive m gv on bytes len live tl tb n = some r ∧ FD (PB on n len bytes live tb) gv r := by
  have hg0 := hK.1
  have hg := hK.2.1
  unfold s_X3_findAlive
  refine loopR (fun fu k => s_X3_findAlive_2 m fu gv on bytes len live tl tb n k) (fun k => (gv - k).toNat) (fun k => 0 ≤ k ∧ k ≤ gv ∧ ∀ j, 0 ≤ j → j < k → ¬ PB on n len bytes live tb j) (fun r => FD (PB on n len bytes live tb) gv r) ?_ FU 0 ⟨by omega, by omega, fun j a b => by omega⟩ (FU_lt (by omega))
  intro fu k ⟨h1, h2, hI⟩
  simp only [s_X3_findAlive_2_s]
  by_cases h : k < gv
  · have hk := hK.2.2 k h1 h
    have next : ¬ PB on n len bytes live tb k → (0 ≤ k + 1 ∧ k + 1 ≤ gv ∧ ∀ j, 0 ≤ j → j < k + 1 → ¬ PB on n len bytes live tb j) := fun hn => ⟨by omega, by omega, fun j a b => by
      by_cases hj : j = k
      · subst hj; exact hn
      · exact hI j a (by omega)⟩
    by_cases hl : live k = 1
    · by_cases hn : len k = n
      · obtain ⟨r, q1, q2⟩ := X3_standsAt_e (m := m) (tb := tb) (p := 0) hK o1 o2 hm h1 h ht1 ht2 hT (by omega) (by omega)
        rcases q2 with ⟨q2, q3⟩ | ⟨q2, q3⟩
        · left
          refine ⟨k, ?_, Or.inr ⟨h1, h, ⟨hl, hn, by rw [← hn]; exact q3.2.2⟩, hI⟩⟩
          simp (disch := omega) only [cLt_t, cLt_f, cEq_t, cEq_f, cLtL_t, cLtL_f, cEqL_t, cEqL_f, cR_t, cRL_t, cZ_t, cN_t, cCp_t, rdA_t, ob_e, bd1_e, bd2_e, bd3_e, bd4_e, bd5_e, bd6_e, bd7_e, bd8_e, bd9_e, bd10_e, bd12_e, q1]
        · right
          refine ⟨k + 1, next (fun z => q3 ⟨by omega, by omega, by rw [hn]; exact z.2.2⟩), by omega, ?_⟩
          simp (disch := omega) only [cLt_t, cLt_f, cEq_t, cEq_f, cLtL_t, cLtL_f, cEqL_t, cEqL_f, cR_t, cRL_t, cZ_t, cN_t, cCp_t, rdA_t, ob_e, bd1_e, bd2_e, bd3_e, bd4_e, bd5_e, bd6_e, bd7_e, bd8_e, bd9_e, bd10_e, bd12_e, q1]
      · right
        refine ⟨k + 1, next (fun z => hn z.2.1), by omega, ?_⟩
        simp (disch := omega) only [cLt_t, cLt_f, cEq_t, cEq_f, cLtL_t, cLtL_f, cEqL_t, cEqL_f, cR_t, cRL_t, cZ_t, cN_t, cCp_t, rdA_t, ob_e, bd1_e, bd2_e, bd3_e, bd4_e, bd5_e, bd6_e, bd7_e, bd8_e, bd9_e, bd10_e, bd12_e]
    · right
      refine ⟨k + 1, next (fun z => hl z.1), by omega, ?_⟩
      simp (disch := omega) only [cLt_t, cLt_f, cEq_t, cEq_f, cLtL_t, cLtL_f, cEqL_t, cEqL_f, cR_t, cRL_t, cZ_t, cN_t, cCp_t, rdA_t, ob_e, bd1_e, bd2_e, bd3_e, bd4_e, bd5_e, bd6_e, bd7_e, bd8_e, bd9_e, bd10_e, bd12_e]
  · left
    refine ⟨-1, ?_, Or.inl ⟨rfl, fun j a b => hI j a (by omega)⟩⟩
    simp (disch := omega) only [cLt_t, cLt_f, cEq_t, cEq_f, cLtL_t, cLtL_f, cEqL_t, cEqL_f, cR_t, cRL_t, cZ_t, cN_t, cCp_t, rdA_t, ob_e, bd1_e, bd2_e, bd3_e, bd4_e, bd5_e, bd6_e, bd7_e, bd8_e, bd9_e, bd10_e, bd12_e]
theorem X8_found_e {gv on n : Int} {len bytes wt live buf : Int → Int} (hK : KW gv len bytes wt live) (o1 : 0 ≤ on) (o2 : on ≤ 1) (hn1 : 0 ≤ n) (hn2 : n ≤ 200) (hT : RB buf 0 n) : ∃ r, s_X8_found gv on buf len bytes live n = some r ∧ FD (PB on n len bytes live buf) gv r := by
  have hg0 := hK.1
  have hg := hK.2.1
  unfold s_X8_found
  refine loopR (fun fu k => s_X8_found_2 fu gv on buf len bytes live n k) (fun k => (gv - k).toNat) (fun k => 0 ≤ k ∧ k ≤ gv ∧ ∀ j, 0 ≤ j → j < k → ¬ PB on n len bytes live buf j) (fun r => FD (PB on n len bytes live buf) gv r) ?_ FU 0 ⟨by omega, by omega, fun j a b => by omega⟩ (FU_lt (by omega))
  intro fu k ⟨h1, h2, hI⟩
  simp only [s_X8_found_2_s]
  by_cases h : k < gv
  · have hk := hK.2.2 k h1 h
    have next : ¬ PB on n len bytes live buf k → (0 ≤ k + 1 ∧ k + 1 ≤ gv ∧ ∀ j, 0 ≤ j → j < k + 1 → ¬ PB on n len bytes live buf j) := fun hn => ⟨by omega, by omega, fun j a b => by
      by_cases hj : j = k
      · subst hj; exact hn
      · exact hI j a (by omega)⟩
    by_cases hl : live k = 1
    · obtain ⟨r, q1, q2⟩ := X8_isBuffer_e (on := on) (k := k) (n := n) (len := len) (bytes := bytes) (buf := buf) o1 o2 h1 (by omega) (by omega) hn2 (by omega) (by omega) (hK.rb h1 h (by omega)) hT
      rcases q2 with ⟨q2, q3⟩ | ⟨q2, q3⟩
      · left
        refine ⟨k, ?_, Or.inr ⟨h1, h, ⟨hl, q3⟩, hI⟩⟩
        simp (disch := omega) only [cLt_t, cLt_f, cEq_t, cEq_f, cLtL_t, cLtL_f, cEqL_t, cEqL_f, cR_t, cRL_t, cZ_t, cN_t, cCp_t, rdA_t, ob_e, bd1_e, bd2_e, bd3_e, bd4_e, bd5_e, bd6_e, bd7_e, bd8_e, bd9_e, bd10_e, bd12_e, q1]
      · right
        refine ⟨k + 1, next (fun z => q3 z.2), by omega, ?_⟩
        simp (disch := omega) only [cLt_t, cLt_f, cEq_t, cEq_f, cLtL_t, cLtL_f, cEqL_t, cEqL_f, cR_t, cRL_t, cZ_t, cN_t, cCp_t, rdA_t, ob_e, bd1_e, bd2_e, bd3_e, bd4_e, bd5_e, bd6_e, bd7_e, bd8_e, bd9_e, bd10_e, bd12_e, q1]
    · right
      refine ⟨k + 1, next (fun z => hl z.1), by omega, ?_⟩
      simp (disch := omega) only [cLt_t, cLt_f, cEq_t, cEq_f, cLtL_t, cLtL_f, cEqL_t, cEqL_f, cR_t, cRL_t, cZ_t, cN_t, cCp_t, rdA_t, ob_e, bd1_e, bd2_e, bd3_e, bd4_e, bd5_e, bd6_e, bd7_e, bd8_e, bd9_e, bd10_e, bd12_e]
  · left
    refine ⟨-1, ?_, Or.inl ⟨rfl, fun j a b => hI j a (by omega)⟩⟩
    simp (disch := omega) only [cLt_t, cLt_f, cEq_t, cEq_f, cLtL_t, cLtL_f, cEqL_t, cEqL_f, cR_t, cRL_t, cZ_t, cN_t, cCp_t, rdA_t, ob_e, bd1_e, bd2_e, bd3_e, bd4_e, bd5_e, bd6_e, bd7_e, bd8_e, bd9_e, bd10_e, bd12_e]
theorem X7_isBufferPart_e {bl n : Int} (h1 : 0 ≤ bl) (h2 : bl ≤ 200) (h3 : -2147483648 ≤ n) (h4 : n < 2147483648) : s_X7_isBufferPart bl n = some (if 0 ≤ n ∧ n ≤ bl then 1 else 0) := by
  unfold s_X7_isBufferPart
  by_cases h : n < 0
  · simp (disch := omega) only [cLt_t, cLt_f, cEq_t, cEq_f, cLtL_t, cLtL_f, cEqL_t, cEqL_f, cR_t, cRL_t, cZ_t, cN_t, cCp_t, rdA_t, ob_e, bd1_e, bd2_e, bd3_e, bd4_e, bd5_e, bd6_e, bd7_e, bd8_e, bd9_e, bd10_e, bd12_e]; rw [if_neg (by omega)]
  · by_cases h' : bl < n
    · simp (disch := omega) only [cLt_t, cLt_f, cEq_t, cEq_f, cLtL_t, cLtL_f, cEqL_t, cEqL_f, cR_t, cRL_t, cZ_t, cN_t, cCp_t, rdA_t, ob_e, bd1_e, bd2_e, bd3_e, bd4_e, bd5_e, bd6_e, bd7_e, bd8_e, bd9_e, bd10_e, bd12_e]; rw [if_neg (by omega)]
    · simp (disch := omega) only [cLt_t, cLt_f, cEq_t, cEq_f, cLtL_t, cLtL_f, cEqL_t, cEqL_f, cR_t, cRL_t, cZ_t, cN_t, cCp_t, rdA_t, ob_e, bd1_e, bd2_e, bd3_e, bd4_e, bd5_e, bd6_e, bd7_e, bd8_e, bd9_e, bd10_e, bd12_e]; rw [if_pos (by omega)]
theorem op_findKeyword {gv on bl n th : Int} {len bytes wt live buf : Int → Int} (hK : KW gv len bytes wt live) (o1 : 0 ≤ on) (o2 : on ≤ 1) (h1 : 0 ≤ bl) (h2 : bl ≤ 200) (hT : RB buf 0 200) (h3 : -2147483648 ≤ n) (h4 : n < 2147483648) : ∃ r bl2, s_X7_findKeyword on bl buf gv bytes len live n = some (r, bl2) ∧ s_X8_findKeyword th bl gv on buf len bytes live n = some (r, 0, bl2) ∧ 0 ≤ bl2 ∧ bl2 ≤ 200 := by
  unfold s_X7_findKeyword s_X8_findKeyword
  by_cases h : 0 ≤ n ∧ n ≤ bl
  · obtain ⟨r, a1, a2⟩ := X3_findAlive_e (m := 200) (tb := buf) (tl := bl) (n := n) hK o1 o2 (by omega) h1 (by omega) (fun j a b => hT j a (by omega)) h.1 h.2
    obtain ⟨r', b1, b2⟩ := X8_found_e (buf := buf) (n := n) hK o1 o2 h.1 (by omega) (fun j a b => hT j a (by omega))
    have e := a2.uniq b2
    subst e
    refine ⟨r, 0, ?_, ?_, by omega, by omega⟩
    · simp (disch := omega) only [cLt_t, cLt_f, cEq_t, cEq_f, cLtL_t, cLtL_f, cEqL_t, cEqL_f, cR_t, cRL_t, cZ_t, cN_t, cCp_t, rdA_t, ob_e, bd1_e, bd2_e, bd3_e, bd4_e, bd5_e, bd6_e, bd7_e, bd8_e, bd9_e, bd10_e, bd12_e, X7_isBufferPart_e, if_pos h, a1]
      rfl
    · simp (disch := omega) only [cLt_t, cLt_f, cEq_t, cEq_f, cLtL_t, cLtL_f, cEqL_t, cEqL_f, cR_t, cRL_t, cZ_t, cN_t, cCp_t, rdA_t, ob_e, bd1_e, bd2_e, bd3_e, bd4_e, bd5_e, bd6_e, bd7_e, bd8_e, bd9_e, bd10_e, bd12_e, X8_isIn_e, if_pos h, b1]
  · refine ⟨-3, bl, ?_, ?_, h1, h2⟩
    · simp (disch := omega) only [cLt_t, cLt_f, cEq_t, cEq_f, cLtL_t, cLtL_f, cEqL_t, cEqL_f, cR_t, cRL_t, cZ_t, cN_t, cCp_t, rdA_t, ob_e, bd1_e, bd2_e, bd3_e, bd4_e, bd5_e, bd6_e, bd7_e, bd8_e, bd9_e, bd10_e, bd12_e, X7_isBufferPart_e, if_neg h]
    · simp (disch := omega) only [cLt_t, cLt_f, cEq_t, cEq_f, cLtL_t, cLtL_f, cEqL_t, cEqL_f, cR_t, cRL_t, cZ_t, cN_t, cCp_t, rdA_t, ob_e, bd1_e, bd2_e, bd3_e, bd4_e, bd5_e, bd6_e, bd7_e, bd8_e, bd9_e, bd10_e, bd12_e, X8_isIn_e, if_neg h]
/-- the first n bytes are a keyword -/
def TX (buf : Int → Int) (n : Int) : Prop := 1 ≤ n ∧ n ≤ 16 ∧ ∀ i, 0 ≤ i → i < n → 33 ≤ buf i ∧ buf i ≤ 126
theorem X1_at_e {m : Nat} {l i : Int} {b : Int → Int} (h1 : l ≤ (m : Int)) (h2 : (m : Int) ≤ 100000) (h3 : 0 ≤ l) (h4 : -2147483648 ≤ i) (h5 : i < 2147483648) : s_X1_at m l b i = some (if 0 ≤ i ∧ i < l then b i else -1) := by
  unfold s_X1_at
  by_cases h : i < 0
  · simp (disch := omega) only [cLt_t, cLt_f, cEq_t, cEq_f, cLtL_t, cLtL_f, cEqL_t, cEqL_f, cR_t, cRL_t, cZ_t, cN_t, cCp_t, rdA_t, ob_e, bd1_e, bd2_e, bd3_e, bd4_e, bd5_e, bd6_e, bd7_e, bd8_e, bd9_e, bd10_e, bd12_e]; rw [if_neg (by omega)]
  · by_cases h' : i < l
    · simp (disch := omega) only [cLt_t, cLt_f, cEq_t, cEq_f, cLtL_t, cLtL_f, cEqL_t, cEqL_f, cR_t, cRL_t, cZ_t, cN_t, cCp_t, rdA_t, ob_e, bd1_e, bd2_e, bd3_e, bd4_e, bd5_e, bd6_e, bd7_e, bd8_e, bd9_e, bd10_e, bd12_e]; rw [if_pos (by omega)]
    · simp (disch := omega) only [cLt_t, cLt_f, cEq_t, cEq_f, cLtL_t, cLtL_f, cEqL_t, cEqL_f, cR_t, cRL_t, cZ_t, cN_t, cCp_t, rdA_t, ob_e, bd1_e, bd2_e, bd3_e, bd4_e, bd5_e, bd6_e, bd7_e, bd8_e, bd9_e, bd10_e, bd12_e]; rw [if_neg (by omega)]
theorem X7_isKeywordText_e {bl n : Int} {buf : Int → Int} (h1 : 0 ≤ bl) (h2 : bl ≤ 200) (hT : RB buf 0 200) (h3 : 0 ≤ n) (h4 : n ≤ bl) : ∃ r, s_X7_isKeywordText bl buf n = some r ∧ BB r (TX buf n) := by
  unfold s_X7_isKeywordText
  by_cases a : n < 1
  · refine ⟨0, by simp (disch := omega) only [cLt_t, cLt_f, cEq_t, cEq_f, cLtL_t, cLtL_f, cEqL_t, cEqL_f, cR_t, cRL_t, cZ_t, cN_t, cCp_t, rdA_t, ob_e, bd1_e, bd2_e, bd3_e, bd4_e, bd5_e, bd6_e, bd7_e, bd8_e, bd9_e, bd10_e, bd12_e], Or.inr ⟨rfl, fun q => by have := q.1; omega⟩⟩
  · by_cases b : 16 < n
    · refine ⟨0, by simp (disch := omega) only [cLt_t, cLt_f, cEq_t, cEq_f, cLtL_t, cLtL_f, cEqL_t, cEqL_f, cR_t, cRL_t, cZ_t, cN_t, cCp_t, rdA_t, ob_e, bd1_e, bd2_e, bd3_e, bd4_e, bd5_e, bd6_e, bd7_e, bd8_e, bd9_e, bd10_e, bd12_e], Or.inr ⟨rfl, fun q => by have := q.2.1; omega⟩⟩
    · have := loopR (fun fu i => s_X7_isKeywordText_15 fu bl buf n i) (fun i => (n - i).toNat) (fun i => 0 ≤ i ∧ i ≤ n ∧ ∀ j, 0 ≤ j → j < i → 33 ≤ buf j ∧ buf j ≤ 126) (fun r => BB r (TX buf n)) ?_ FU 0 ⟨by omega, by omega, fun j a b => by omega⟩ (FU_lt (by omega))
      · obtain ⟨r, q1, q2⟩ := this
        have q1 : s_X7_isKeywordText_15 FU bl buf n 0 = some r := q1
        exact ⟨r, by simp (disch := omega) only [cLt_t, cLt_f, cEq_t, cEq_f, cLtL_t, cLtL_f, cEqL_t, cEqL_f, cR_t, cRL_t, cZ_t, cN_t, cCp_t, rdA_t, ob_e, bd1_e, bd2_e, bd3_e, bd4_e, bd5_e, bd6_e, bd7_e, bd8_e, bd9_e, bd10_e, bd12_e, q1], q2⟩
      · intro fu i ⟨g1, g2, hI⟩
        simp only [s_X7_isKeywordText_15_s]
        by_cases h : i < n
        · have hb := hT i g1 (by omega)
          rw [Int.zero_add] at hb
          by_cases p1 : buf i < 33
          · left
            refine ⟨0, ?_, Or.inr ⟨rfl, fun q => by have := q.2.2 i g1 h; omega⟩⟩
            simp (disch := omega) only [cLt_t, cLt_f, cEq_t, cEq_f, cLtL_t, cLtL_f, cEqL_t, cEqL_f, cR_t, cRL_t, cZ_t, cN_t, cCp_t, rdA_t, ob_e, bd1_e, bd2_e, bd3_e, bd4_e, bd5_e, bd6_e, bd7_e, bd8_e, bd9_e, bd10_e, bd12_e, X1_at_e]
          · by_cases p2 : 126 < buf i
            · left
              refine ⟨0, ?_, Or.inr ⟨rfl, fun q => by have := q.2.2 i g1 h; omega⟩⟩
              simp (disch := omega) only [cLt_t, cLt_f, cEq_t, cEq_f, cLtL_t, cLtL_f, cEqL_t, cEqL_f, cR_t, cRL_t, cZ_t, cN_t, cCp_t, rdA_t, ob_e, bd1_e, bd2_e, bd3_e, bd4_e, bd5_e, bd6_e, bd7_e, bd8_e, bd9_e, bd10_e, bd12_e, X1_at_e]
            · right
              refine ⟨i + 1, ⟨by omega, by omega, fun j c d => ?_⟩, by omega, ?_⟩
              · by_cases hj : j = i
                · subst hj; omega
                · exact hI j c (by omega)
              · simp (disch := omega) only [cLt_t, cLt_f, cEq_t, cEq_f, cLtL_t, cLtL_f, cEqL_t, cEqL_f, cR_t, cRL_t, cZ_t, cN_t, cCp_t, rdA_t, ob_e, bd1_e, bd2_e, bd3_e, bd4_e, bd5_e, bd6_e, bd7_e, bd8_e, bd9_e, bd10_e, bd12_e, X1_at_e]
        · left
          refine ⟨1, ?_, Or.inl ⟨rfl, by omega, by omega, fun j c d => hI j c (by omega)⟩⟩
          simp (disch := omega) only [cLt_t, cLt_f, cEq_t, cEq_f, cLtL_t, cLtL_f, cEqL_t, cEqL_f, cR_t, cRL_t, cZ_t, cN_t, cCp_t, rdA_t, ob_e, bd1_e, bd2_e, bd3_e, bd4_e, bd5_e, bd6_e, bd7_e, bd8_e, bd9_e, bd10_e, bd12_e]
theorem X8_isText_e {n : Int} {buf : Int → Int} (hT : RB buf 0 200) (h3 : 0 ≤ n) (h4 : n ≤ 200) : ∃ r, s_X8_isText buf n = some r ∧ BB r (TX buf n) := by
  unfold s_X8_isText
  have := loopR (fun fu (st : Int × Int) => s_X8_isText_12 fu buf n st.1 st.2) (fun st => (n - st.2).toNat) (fun st => 0 ≤ st.2 ∧ st.2 ≤ n ∧ BB st.1 (1 ≤ n ∧ n ≤ 16 ∧ ∀ j, 0 ≤ j → j < st.2 → 33 ≤ buf j ∧ buf j ≤ 126)) (fun r => BB r (TX buf n)) ?_ FU ((if 1 ≤ n ∧ n ≤ 16 then 1 else 0), 0) ⟨by show (0 : Int) ≤ 0; omega, h3, ?_⟩ (FU_lt (by show (n - 0).toNat < _; omega))
  · obtain ⟨r, q1, q2⟩ := this
    have q1 : s_X8_isText_12 FU buf n (if 1 ≤ n ∧ n ≤ 16 then 1 else 0) 0 = some r := q1
    have := BB_rg q2
    exact ⟨r, by simp (disch := omega) only [cLt_t, cLt_f, cEq_t, cEq_f, cLtL_t, cLtL_f, cEqL_t, cEqL_f, cR_t, cRL_t, cZ_t, cN_t, cCp_t, rdA_t, ob_e, bd1_e, bd2_e, bd3_e, bd4_e, bd5_e, bd6_e, bd7_e, bd8_e, bd9_e, bd10_e, bd12_e, X8_isIn_e, q1], q2⟩
  · intro fu ⟨c, i⟩ ⟨g1, g2, hI⟩
    have g1 : 0 ≤ i := g1
    have g2 : i ≤ n := g2
    have hI : BB c (1 ≤ n ∧ n ≤ 16 ∧ ∀ j, 0 ≤ j → j < i → 33 ≤ buf j ∧ buf j ≤ 126) := hI
    have hc := BB_rg hI
    simp only [s_X8_isText_12_s]
    by_cases h : i < n
    · by_cases hc0 : c = 0
      · left
        refine ⟨c, by simp (disch := omega) only [cLt_t, cLt_f, cEq_t, cEq_f, cLtL_t, cLtL_f, cEqL_t, cEqL_f, cR_t, cRL_t, cZ_t, cN_t, cCp_t, rdA_t, ob_e, bd1_e, bd2_e, bd3_e, bd4_e, bd5_e, bd6_e, bd7_e, bd8_e, bd9_e, bd10_e, bd12_e], ?_⟩
        rcases hI with ⟨p, q⟩ | ⟨p, q⟩
        · omega
        · exact Or.inr ⟨p, fun z => q ⟨z.1, z.2.1, fun j a b => z.2.2 j a (by omega)⟩⟩
      · right
        have hb := hT i g1 (by omega)
        rw [Int.zero_add] at hb
        refine ⟨((if 33 ≤ buf i ∧ buf i ≤ 126 then 1 else 0), i + 1), ⟨by show 0 ≤ i + 1; omega, by show i + 1 ≤ n; omega, ?_⟩, by show (n - (i + 1)).toNat < (n - i).toNat; omega, ?_⟩
        · show BB (if 33 ≤ buf i ∧ buf i ≤ 126 then 1 else 0) _
          rcases hI with ⟨p, q⟩ | ⟨p, q⟩
          · by_cases z : 33 ≤ buf i ∧ buf i ≤ 126
            · rw [if_pos z]
              refine Or.inl ⟨rfl, q.1, q.2.1, fun j a b => ?_⟩
              by_cases hj : j = i
              · subst hj; exact z
              · exact q.2.2 j a (by have : j < i + 1 := b; omega)
            · rw [if_neg z]
              exact Or.inr ⟨rfl, fun w => z (w.2.2 i g1 (by show i < i + 1; omega))⟩
          · omega
        · simp (disch := omega) only [cLt_t, cLt_f, cEq_t, cEq_f, cLtL_t, cLtL_f, cEqL_t, cEqL_f, cR_t, cRL_t, cZ_t, cN_t, cCp_t, rdA_t, ob_e, bd1_e, bd2_e, bd3_e, bd4_e, bd5_e, bd6_e, bd7_e, bd8_e, bd9_e, bd10_e, bd12_e, X8_isIn_e]
    · left
      refine ⟨c, by simp (disch := omega) only [cLt_t, cLt_f, cEq_t, cEq_f, cLtL_t, cLtL_f, cEqL_t, cEqL_f, cR_t, cRL_t, cZ_t, cN_t, cCp_t, rdA_t, ob_e, bd1_e, bd2_e, bd3_e, bd4_e, bd5_e, bd6_e, bd7_e, bd8_e, bd9_e, bd10_e, bd12_e], ?_⟩
      rcases hI with ⟨p, q⟩ | ⟨p, q⟩
      · exact Or.inl ⟨p, q.1, q.2.1, fun j a b => q.2.2 j a (by omega)⟩
      · exact Or.inr ⟨p, fun z => q ⟨z.1, z.2.1, fun j a b => z.2.2 j a (by omega)⟩⟩
  · show BB (if 1 ≤ n ∧ n ≤ 16 then 1 else 0) _
    by_cases z : 1 ≤ n ∧ n ≤ 16
    · rw [if_pos z]; exact Or.inl ⟨rfl, z.1, z.2, fun j a b => by have : j < 0 := b; omega⟩
    · rw [if_neg z]; exact Or.inr ⟨rfl, fun q => z ⟨q.1, q.2.1⟩⟩
/-! the stream's and the reports' reads -/
theorem op_streamByte {sl p th : Int} {str : Int → Int} (h1 : 0 ≤ sl) (h2 : sl ≤ 600) (h3 : -2147483648 ≤ p) (h4 : p < 2147483648) : ∃ r, s_X7_streamByte sl str p = some r ∧ s_X8_streamByte th sl str p = some (r, 0) := by
  unfold s_X7_streamByte s_X8_streamByte
  by_cases a : p < 0
  · exact ⟨-3, by simp (disch := omega) only [cLt_t, cLt_f, cEq_t, cEq_f, cLtL_t, cLtL_f, cEqL_t, cEqL_f, cR_t, cRL_t, cZ_t, cN_t, cCp_t, rdA_t, ob_e, bd1_e, bd2_e, bd3_e, bd4_e, bd5_e, bd6_e, bd7_e, bd8_e, bd9_e, bd10_e, bd12_e], by simp (disch := omega) only [cLt_t, cLt_f, cEq_t, cEq_f, cLtL_t, cLtL_f, cEqL_t, cEqL_f, cR_t, cRL_t, cZ_t, cN_t, cCp_t, rdA_t, ob_e, bd1_e, bd2_e, bd3_e, bd4_e, bd5_e, bd6_e, bd7_e, bd8_e, bd9_e, bd10_e, bd12_e]⟩
  · by_cases b : p < sl
    · exact ⟨str p, by simp (disch := omega) only [cLt_t, cLt_f, cEq_t, cEq_f, cLtL_t, cLtL_f, cEqL_t, cEqL_f, cR_t, cRL_t, cZ_t, cN_t, cCp_t, rdA_t, ob_e, bd1_e, bd2_e, bd3_e, bd4_e, bd5_e, bd6_e, bd7_e, bd8_e, bd9_e, bd10_e, bd12_e, X1_at_e, if_pos (show 0 ≤ p ∧ p < sl by omega)], by simp (disch := omega) only [cLt_t, cLt_f, cEq_t, cEq_f, cLtL_t, cLtL_f, cEqL_t, cEqL_f, cR_t, cRL_t, cZ_t, cN_t, cCp_t, rdA_t, ob_e, bd1_e, bd2_e, bd3_e, bd4_e, bd5_e, bd6_e, bd7_e, bd8_e, bd9_e, bd10_e, bd12_e]⟩
    · exact ⟨-1, by simp (disch := omega) only [cLt_t, cLt_f, cEq_t, cEq_f, cLtL_t, cLtL_f, cEqL_t, cEqL_f, cR_t, cRL_t, cZ_t, cN_t, cCp_t, rdA_t, ob_e, bd1_e, bd2_e, bd3_e, bd4_e, bd5_e, bd6_e, bd7_e, bd8_e, bd9_e, bd10_e, bd12_e, X1_at_e, if_neg (show ¬ (0 ≤ p ∧ p < sl) by omega)], by simp (disch := omega) only [cLt_t, cLt_f, cEq_t, cEq_f, cLtL_t, cLtL_f, cEqL_t, cEqL_f, cR_t, cRL_t, cZ_t, cN_t, cCp_t, rdA_t, ob_e, bd1_e, bd2_e, bd3_e, bd4_e, bd5_e, bd6_e, bd7_e, bd8_e, bd9_e, bd10_e, bd12_e]⟩
theorem op_reportEnd {rep rs p th : Int} {e : Int → Int} (h1 : 0 ≤ rep) (h2 : rep ≤ 100000000) (hr : rs = if rep < 300 then rep else 300) (h3 : -2147483648 ≤ p) (h4 : p < 2147483648) : ∃ r, s_X7_reportEnd rs e p = some r ∧ s_X8_reportEnd th rep e p = some (r, 0) := by
  unfold s_X7_reportEnd s_X8_reportEnd s_X4_positionAt s_X8_isStored
  by_cases a : p < 0
  · exact ⟨-3, by simp (disch := omega) only [cLt_t, cLt_f, cEq_t, cEq_f, cLtL_t, cLtL_f, cEqL_t, cEqL_f, cR_t, cRL_t, cZ_t, cN_t, cCp_t, rdA_t, ob_e, bd1_e, bd2_e, bd3_e, bd4_e, bd5_e, bd6_e, bd7_e, bd8_e, bd9_e, bd10_e, bd12_e], by simp (disch := omega) only [cLt_t, cLt_f, cEq_t, cEq_f, cLtL_t, cLtL_f, cEqL_t, cEqL_f, cR_t, cRL_t, cZ_t, cN_t, cCp_t, rdA_t, ob_e, bd1_e, bd2_e, bd3_e, bd4_e, bd5_e, bd6_e, bd7_e, bd8_e, bd9_e, bd10_e, bd12_e]⟩
  · by_cases b : p < rs
    · exact ⟨e p, by simp (disch := omega) only [cLt_t, cLt_f, cEq_t, cEq_f, cLtL_t, cLtL_f, cEqL_t, cEqL_f, cR_t, cRL_t, cZ_t, cN_t, cCp_t, rdA_t, ob_e, bd1_e, bd2_e, bd3_e, bd4_e, bd5_e, bd6_e, bd7_e, bd8_e, bd9_e, bd10_e, bd12_e], by simp (disch := omega) only [cLt_t, cLt_f, cEq_t, cEq_f, cLtL_t, cLtL_f, cEqL_t, cEqL_f, cR_t, cRL_t, cZ_t, cN_t, cCp_t, rdA_t, ob_e, bd1_e, bd2_e, bd3_e, bd4_e, bd5_e, bd6_e, bd7_e, bd8_e, bd9_e, bd10_e, bd12_e]⟩
    · by_cases c : p < rep
      · exact ⟨-1, by simp (disch := omega) only [cLt_t, cLt_f, cEq_t, cEq_f, cLtL_t, cLtL_f, cEqL_t, cEqL_f, cR_t, cRL_t, cZ_t, cN_t, cCp_t, rdA_t, ob_e, bd1_e, bd2_e, bd3_e, bd4_e, bd5_e, bd6_e, bd7_e, bd8_e, bd9_e, bd10_e, bd12_e], by simp (disch := omega) only [cLt_t, cLt_f, cEq_t, cEq_f, cLtL_t, cLtL_f, cEqL_t, cEqL_f, cR_t, cRL_t, cZ_t, cN_t, cCp_t, rdA_t, ob_e, bd1_e, bd2_e, bd3_e, bd4_e, bd5_e, bd6_e, bd7_e, bd8_e, bd9_e, bd10_e, bd12_e]⟩
      · exact ⟨-1, by simp (disch := omega) only [cLt_t, cLt_f, cEq_t, cEq_f, cLtL_t, cLtL_f, cEqL_t, cEqL_f, cR_t, cRL_t, cZ_t, cN_t, cCp_t, rdA_t, ob_e, bd1_e, bd2_e, bd3_e, bd4_e, bd5_e, bd6_e, bd7_e, bd8_e, bd9_e, bd10_e, bd12_e], by simp (disch := omega) only [cLt_t, cLt_f, cEq_t, cEq_f, cLtL_t, cLtL_f, cEqL_t, cEqL_f, cR_t, cRL_t, cZ_t, cN_t, cCp_t, rdA_t, ob_e, bd1_e, bd2_e, bd3_e, bd4_e, bd5_e, bd6_e, bd7_e, bd8_e, bd9_e, bd10_e, bd12_e]⟩
theorem op_reportKeyword {rep rs p th : Int} {e : Int → Int} (h1 : 0 ≤ rep) (h2 : rep ≤ 100000000) (hr : rs = if rep < 300 then rep else 300) (h3 : -2147483648 ≤ p) (h4 : p < 2147483648) : ∃ r, s_X7_reportKeyword rs e p = some r ∧ s_X8_reportKeyword th rep e p = some (r, 0) := by
  unfold s_X7_reportKeyword s_X8_reportKeyword s_X4_keywordAt s_X8_isStored
  by_cases a : p < 0
  · exact ⟨-3, by simp (disch := omega) only [cLt_t, cLt_f, cEq_t, cEq_f, cLtL_t, cLtL_f, cEqL_t, cEqL_f, cR_t, cRL_t, cZ_t, cN_t, cCp_t, rdA_t, ob_e, bd1_e, bd2_e, bd3_e, bd4_e, bd5_e, bd6_e, bd7_e, bd8_e, bd9_e, bd10_e, bd12_e], by simp (disch := omega) only [cLt_t, cLt_f, cEq_t, cEq_f, cLtL_t, cLtL_f, cEqL_t, cEqL_f, cR_t, cRL_t, cZ_t, cN_t, cCp_t, rdA_t, ob_e, bd1_e, bd2_e, bd3_e, bd4_e, bd5_e, bd6_e, bd7_e, bd8_e, bd9_e, bd10_e, bd12_e]⟩
  · by_cases b : p < rs
    · exact ⟨e p, by simp (disch := omega) only [cLt_t, cLt_f, cEq_t, cEq_f, cLtL_t, cLtL_f, cEqL_t, cEqL_f, cR_t, cRL_t, cZ_t, cN_t, cCp_t, rdA_t, ob_e, bd1_e, bd2_e, bd3_e, bd4_e, bd5_e, bd6_e, bd7_e, bd8_e, bd9_e, bd10_e, bd12_e], by simp (disch := omega) only [cLt_t, cLt_f, cEq_t, cEq_f, cLtL_t, cLtL_f, cEqL_t, cEqL_f, cR_t, cRL_t, cZ_t, cN_t, cCp_t, rdA_t, ob_e, bd1_e, bd2_e, bd3_e, bd4_e, bd5_e, bd6_e, bd7_e, bd8_e, bd9_e, bd10_e, bd12_e]⟩
    · by_cases c : p < rep
      · exact ⟨-1, by simp (disch := omega) only [cLt_t, cLt_f, cEq_t, cEq_f, cLtL_t, cLtL_f, cEqL_t, cEqL_f, cR_t, cRL_t, cZ_t, cN_t, cCp_t, rdA_t, ob_e, bd1_e, bd2_e, bd3_e, bd4_e, bd5_e, bd6_e, bd7_e, bd8_e, bd9_e, bd10_e, bd12_e], by simp (disch := omega) only [cLt_t, cLt_f, cEq_t, cEq_f, cLtL_t, cLtL_f, cEqL_t, cEqL_f, cR_t, cRL_t, cZ_t, cN_t, cCp_t, rdA_t, ob_e, bd1_e, bd2_e, bd3_e, bd4_e, bd5_e, bd6_e, bd7_e, bd8_e, bd9_e, bd10_e, bd12_e]⟩
      · exact ⟨-1, by simp (disch := omega) only [cLt_t, cLt_f, cEq_t, cEq_f, cLtL_t, cLtL_f, cEqL_t, cEqL_f, cR_t, cRL_t, cZ_t, cN_t, cCp_t, rdA_t, ob_e, bd1_e, bd2_e, bd3_e, bd4_e, bd5_e, bd6_e, bd7_e, bd8_e, bd9_e, bd10_e, bd12_e], by simp (disch := omega) only [cLt_t, cLt_f, cEq_t, cEq_f, cLtL_t, cLtL_f, cEqL_t, cEqL_f, cR_t, cRL_t, cZ_t, cN_t, cCp_t, rdA_t, ob_e, bd1_e, bd2_e, bd3_e, bd4_e, bd5_e, bd6_e, bd7_e, bd8_e, bd9_e, bd10_e, bd12_e]⟩
