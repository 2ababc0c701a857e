/-! ===== the superstring: which keywords begin it ===== -/
def IN1 (on : Int) (len bytes : Int → Int) (k k2 : Int) : Prop := ∃ d, 0 ≤ d ∧ d + len k ≤ len k2 ∧ RE on bytes (16 * k) bytes (16 * k2 + d) (len k)
def INS (on gv : Int) (len bytes live : Int → Int) (k : Int) : Prop := ∃ k2, LV gv live k2 ∧ k2 ≠ k ∧ IN1 on len bytes k k2
theorem inside49_e {on gv k k2 b : Int} {len bytes wt live : Int → Int} (hK : KW gv len bytes wt live) (o1 : 0 ≤ on) (o2 : on ≤ 1) (hk : 0 ≤ k) (hk2 : k < gv) (hq : 0 ≤ k2) (hq2 : k2 < gv) (hb : b ≤ len k2 - len k + 1) (hb2 : -20 ≤ b) : ∃ r, s_X3_isInsideAnother_49 FU on bytes k (len k) k2 b 0 = some r ∧ ((r = .inl 1 ∧ ∃ d, 0 ≤ d ∧ d < b ∧ RE on bytes (16 * k) bytes (16 * k2 + d) (len k)) ∨ (r = .inr () ∧ ∀ d, 0 ≤ d → d < b → ¬ RE on bytes (16 * k) bytes (16 * k2 + d) (len k))) := by
  have h1 := hK.2.2 k hk hk2
  have h2 := hK.2.2 k2 hq hq2
  have hg := hK.2.1
  refine loopR (fun fu d => s_X3_isInsideAnother_49 fu on bytes k (len k) k2 b d) (fun d => (b - d).toNat) (fun d => 0 ≤ d ∧ d ≤ 20 ∧ (d = 0 ∨ d ≤ b) ∧ ∀ q, 0 ≤ q → q < d → ¬ RE on bytes (16 * k) bytes (16 * k2 + q) (len k)) (fun r => (r = .inl 1 ∧ ∃ d, 0 ≤ d ∧ d < b ∧ RE on bytes (16 * k) bytes (16 * k2 + d) (len k)) ∨ (r = .inr () ∧ ∀ d, 0 ≤ d → d < b → ¬ RE on bytes (16 * k) bytes (16 * k2 + d) (len k))) ?_ FU 0 ⟨Int.le_refl _, by omega, Or.inl rfl, fun q a c => by omega⟩ (FU_lt (by omega))
  intro fu d ⟨g1, g2, g3, g4⟩
  simp only [s_X3_isInsideAnother_49_s]
  by_cases c : d < b
  · obtain ⟨r, r1, r2⟩ := X2_same_e (m0 := 1920) (m2 := 1920) (on := on) (a := 16 * k) (b := 16 * k2 + d) (n := len k) (f := bytes) (g := bytes) o1 o2 (by omega) (by omega) (by omega) (by omega) (by omega) (by omega) (by omega) (by omega) (hK.rb hk hk2 (Int.le_refl _)) (hK.rb2 hq hq2 g1 (by omega))
    rcases r2 with ⟨e1, e2⟩ | ⟨e1, e2⟩
    · left
      exact ⟨.inl 1, by simp (disch := omega) only [cLt_t, cLt_f, cEq_t, cEq_f, cLtL_t, cLtL_f, cEqL_t, cEqL_f, cR_t, cRL_t, cZ_t, cN_t, cCp_t, rdA_t, ob_e, bd1_e, bd2_e, bd3_e, bd4_e, bd5_e, bd6_e, bd7_e, bd8_e, bd9_e, bd10_e, bd12_e, X3_firstByteOf_e, r1], Or.inl ⟨rfl, d, g1, c, e2⟩⟩
    · right
      refine ⟨d + 1, ⟨by omega, by omega, Or.inr (by omega), fun q a z => ?_⟩, by omega, by simp (disch := omega) only [cLt_t, cLt_f, cEq_t, cEq_f, cLtL_t, cLtL_f, cEqL_t, cEqL_f, cR_t, cRL_t, cZ_t, cN_t, cCp_t, rdA_t, ob_e, bd1_e, bd2_e, bd3_e, bd4_e, bd5_e, bd6_e, bd7_e, bd8_e, bd9_e, bd10_e, bd12_e, X3_firstByteOf_e, r1]⟩
      by_cases e : q = d
      · rw [e]; exact e2
      · exact g4 q a (by omega)
  · left
    exact ⟨.inr (), by simp (disch := omega) only [cLt_t, cLt_f, cEq_t, cEq_f, cLtL_t, cLtL_f, cEqL_t, cEqL_f, cR_t, cRL_t, cZ_t, cN_t, cCp_t, rdA_t, ob_e, bd1_e, bd2_e, bd3_e, bd4_e, bd5_e, bd6_e, bd7_e, bd8_e, bd9_e, bd10_e, bd12_e], Or.inr ⟨rfl, fun q a z => g4 q a (by omega)⟩⟩
theorem isInside_e {on gv k : Int} {len bytes wt live : Int → Int} (hK : KW gv len bytes wt live) (o1 : 0 ≤ on) (o2 : on ≤ 1) (hk : 0 ≤ k) (hk2 : k < gv) : ∃ r, s_X3_isInsideAnother gv on bytes len live k = some r ∧ BB r (INS on gv len bytes live k) := by
  have h1 := hK.2.2 k hk hk2
  have hg := hK.2.1
  have hg0 := hK.1
  have B := loopR (fun fu q => s_X3_isInsideAnother_8 fu gv on bytes len live k (len k) q) (fun q => (gv - q).toNat) (fun q => 0 ≤ q ∧ q ≤ gv ∧ ∀ k2, k2 < q → LV gv live k2 → k2 ≠ k → ¬ IN1 on len bytes k k2) (fun r => BB r (INS on gv len bytes live k)) ?_ FU 0 ⟨Int.le_refl _, hg0, fun k2 a b => by have := b.1; omega⟩ (FU_lt (by omega))
  · obtain ⟨r, r1, r2⟩ := B
    have r1 : s_X3_isInsideAnother_8 FU gv on bytes len live k (len k) 0 = some r := r1
    refine ⟨r, ?_, r2⟩
    unfold s_X3_isInsideAnother
    have hl := X3_lengthOf_e (gv := gv) (k := k) (len := len) hk hk2 hg
    simp (disch := omega) only [cLt_t, cLt_f, cEq_t, cEq_f, cLtL_t, cLtL_f, cEqL_t, cEqL_f, cR_t, cRL_t, cZ_t, cN_t, cCp_t, rdA_t, ob_e, bd1_e, bd2_e, bd3_e, bd4_e, bd5_e, bd6_e, bd7_e, bd8_e, bd9_e, bd10_e, bd12_e, hl, r1]
  · intro fu q ⟨g1, g2, g3⟩
    simp only [s_X3_isInsideAnother_8_s]
    by_cases c : q < gv
    · have hq := hK.2.2 q g1 c
      have z := inside49_e (b := 0) hK o1 o2 hk hk2 hk hk2 (by omega) (by omega)
      rcases hq.2.2.2.2.1 with e | e
      · right
        obtain ⟨r, r1, r2⟩ := inside49_e (k2 := q) (b := if 0 ≤ len q - len k + 1 then 0 else len q - len k + 1) hK o1 o2 hk hk2 g1 c (by split <;> omega) (by split <;> omega)
        have n0 : s_X3_isInsideAnother_49 FU on bytes k (len k) q 0 0 = some (.inr ()) := by
          obtain ⟨f, hf⟩ : ∃ f, FU = f + 1 := ⟨FU - 1, by have := FU_lt (n := 0) (by omega); omega⟩
          rw [hf]
          simp only [s_X3_isInsideAnother_49_s]
          simp (disch := omega) only [cLt_t, cLt_f, cEq_t, cEq_f, cLtL_t, cLtL_f, cEqL_t, cEqL_f, cR_t, cRL_t, cZ_t, cN_t, cCp_t, rdA_t, ob_e, bd1_e, bd2_e, bd3_e, bd4_e, bd5_e, bd6_e, bd7_e, bd8_e, bd9_e, bd10_e, bd12_e]
        refine ⟨q + 1, ⟨by omega, by omega, fun k2 a b d => ?_⟩, by omega, ?_⟩
        · by_cases w : k2 = q
          · have := b.2.2; rw [w] at this; omega
          · exact g3 k2 (by omega) b d
        · simp (disch := omega) only [cLt_t, cLt_f, cEq_t, cEq_f, cLtL_t, cLtL_f, cEqL_t, cEqL_f, cR_t, cRL_t, cZ_t, cN_t, cCp_t, rdA_t, ob_e, bd1_e, bd2_e, bd3_e, bd4_e, bd5_e, bd6_e, bd7_e, bd8_e, bd9_e, bd10_e, bd12_e, e, n0]
          rfl
      · by_cases w : q = k
        · right
          have n0 : s_X3_isInsideAnother_49 FU on bytes k (len k) q 0 0 = some (.inr ()) := by
            obtain ⟨f, hf⟩ : ∃ f, FU = f + 1 := ⟨FU - 1, by have := FU_lt (n := 0) (by omega); omega⟩
            rw [hf]
            simp only [s_X3_isInsideAnother_49_s]
            simp (disch := omega) only [cLt_t, cLt_f, cEq_t, cEq_f, cLtL_t, cLtL_f, cEqL_t, cEqL_f, cR_t, cRL_t, cZ_t, cN_t, cCp_t, rdA_t, ob_e, bd1_e, bd2_e, bd3_e, bd4_e, bd5_e, bd6_e, bd7_e, bd8_e, bd9_e, bd10_e, bd12_e]
          refine ⟨q + 1, ⟨by omega, by omega, fun k2 a b d => ?_⟩, by omega, ?_⟩
          · by_cases v : k2 = q
            · omega
            · exact g3 k2 (by omega) b d
          · simp (disch := omega) only [cLt_t, cLt_f, cEq_t, cEq_f, cLtL_t, cLtL_f, cEqL_t, cEqL_f, cR_t, cRL_t, cZ_t, cN_t, cCp_t, rdA_t, ob_e, bd1_e, bd2_e, bd3_e, bd4_e, bd5_e, bd6_e, bd7_e, bd8_e, bd9_e, bd10_e, bd12_e, e, n0]
            rfl
        · obtain ⟨r, r1, r2⟩ := inside49_e (k2 := q) (b := len q - len k + 1) hK o1 o2 hk hk2 g1 c (by omega) (by omega)
          rcases r2 with ⟨e1, d, d1, d2, d3⟩ | ⟨e1, e2⟩
          · left
            refine ⟨1, ?_, Or.inl ⟨rfl, q, ⟨g1, c, e⟩, w, d, d1, by omega, d3⟩⟩
            rw [e1] at r1
            simp (disch := omega) only [cLt_t, cLt_f, cEq_t, cEq_f, cLtL_t, cLtL_f, cEqL_t, cEqL_f, cR_t, cRL_t, cZ_t, cN_t, cCp_t, rdA_t, ob_e, bd1_e, bd2_e, bd3_e, bd4_e, bd5_e, bd6_e, bd7_e, bd8_e, bd9_e, bd10_e, bd12_e, e, r1]
            rfl
          · right
            refine ⟨q + 1, ⟨by omega, by omega, fun k2 a b d => ?_⟩, by omega, ?_⟩
            · by_cases v : k2 = q
              · rw [v]
                rintro ⟨d', p1, p2, p3⟩
                exact e2 d' p1 (by omega) p3
              · exact g3 k2 (by omega) b d
            · rw [e1] at r1
              simp (disch := omega) only [cLt_t, cLt_f, cEq_t, cEq_f, cLtL_t, cLtL_f, cEqL_t, cEqL_f, cR_t, cRL_t, cZ_t, cN_t, cCp_t, rdA_t, ob_e, bd1_e, bd2_e, bd3_e, bd4_e, bd5_e, bd6_e, bd7_e, bd8_e, bd9_e, bd10_e, bd12_e, e, r1]
              rfl
    · left
      refine ⟨0, by simp (disch := omega) only [cLt_t, cLt_f, cEq_t, cEq_f, cLtL_t, cLtL_f, cEqL_t, cEqL_f, cR_t, cRL_t, cZ_t, cN_t, cCp_t, rdA_t, ob_e, bd1_e, bd2_e, bd3_e, bd4_e, bd5_e, bd6_e, bd7_e, bd8_e, bd9_e, bd10_e, bd12_e], Or.inr ⟨rfl, ?_⟩⟩
      rintro ⟨k2, p1, p2, p3⟩
      exact g3 k2 (by have := p1.2.1; omega) p1 p2 p3
theorem occursIn22_e {on gv k k2 d : Int} {len bytes wt live : Int → Int} (hK : KW gv len bytes wt live) (o1 : 0 ≤ on) (o2 : on ≤ 1) (hk : 0 ≤ k) (hk2 : k < gv) (hq : 0 ≤ k2) (hq2 : k2 < gv) (hd : 0 ≤ d) (hd2 : d + len k ≤ len k2) : ∃ r, s_X8_occursIn_22 FU on len bytes k k2 d 0 = some r ∧ LC on bytes (16 * k) bytes (16 * k2 + d) (len k) r := by
  have h1 := hK.2.2 k hk hk2
  have h2 := hK.2.2 k2 hq hq2
  have hg := hK.2.1
  have rf := hK.rb hk hk2 (n := len k) (Int.le_refl _)
  have rg := hK.rb2 hq hq2 (n := len k) hd (by omega)
  refine loopR (fun fu i => s_X8_occursIn_22 fu on len bytes k k2 d i) (fun i => (len k - i).toNat) (fun i => 0 ≤ i ∧ i ≤ len k ∧ RE on bytes (16 * k) bytes (16 * k2 + d) i) (fun r => LC on bytes (16 * k) bytes (16 * k2 + d) (len k) r) ?_ FU 0 ⟨Int.le_refl _, by omega, fun j a b => by omega⟩ (FU_lt (by omega))
  intro fu i ⟨g1, g2, g3⟩
  simp only [s_X8_occursIn_22_s]
  by_cases c : i < len k
  · have u1 := rf i g1 c
    have u2 := rg i g1 c
    have b1 := X8_byteOf_e (f := bytes) (k := k) (i := i) (by omega) (by omega)
    have b2 := X8_byteOf_e (f := bytes) (k := k2) (i := d + i) (by omega) (by omega)
    rw [show 16 * k2 + (d + i) = 16 * k2 + d + i by omega] at b2
    have like := X8_like_e (on := on) o1 o2 u1.1 u1.2 u2.1 u2.2
    by_cases e : fo on (bytes (16 * k + i)) = fo on (bytes (16 * k2 + d + i))
    · right
      rw [if_pos e] at like
      refine ⟨i + 1, ⟨by omega, by omega, fun j u w => ?_⟩, by omega, by simp (disch := omega) only [cLt_t, cLt_f, cEq_t, cEq_f, cLtL_t, cLtL_f, cEqL_t, cEqL_f, cR_t, cRL_t, cZ_t, cN_t, cCp_t, rdA_t, ob_e, bd1_e, bd2_e, bd3_e, bd4_e, bd5_e, bd6_e, bd7_e, bd8_e, bd9_e, bd10_e, bd12_e, b1, b2, like]⟩
      by_cases v : j = i
      · rw [v]; exact e
      · exact g3 j u (by omega)
    · left
      rw [if_neg e] at like
      exact ⟨i, by simp (disch := omega) only [cLt_t, cLt_f, cEq_t, cEq_f, cLtL_t, cLtL_f, cEqL_t, cEqL_f, cR_t, cRL_t, cZ_t, cN_t, cCp_t, rdA_t, ob_e, bd1_e, bd2_e, bd3_e, bd4_e, bd5_e, bd6_e, bd7_e, bd8_e, bd9_e, bd10_e, bd12_e, b1, b2, like], g1, g2, g3, Or.inr e⟩
  · left
    exact ⟨i, by simp (disch := omega) only [cLt_t, cLt_f, cEq_t, cEq_f, cLtL_t, cLtL_f, cEqL_t, cEqL_f, cR_t, cRL_t, cZ_t, cN_t, cCp_t, rdA_t, ob_e, bd1_e, bd2_e, bd3_e, bd4_e, bd5_e, bd6_e, bd7_e, bd8_e, bd9_e, bd10_e, bd12_e], g1, g2, g3, Or.inl (by omega)⟩
theorem occursIn_e {on gv k k2 : Int} {len bytes wt live : Int → Int} (hK : KW gv len bytes wt live) (o1 : 0 ≤ on) (o2 : on ≤ 1) (hk : 0 ≤ k) (hk2 : k < gv) (hq : 0 ≤ k2) (hq2 : k2 < gv) : ∃ r, s_X8_occursIn on len bytes k k2 = some r ∧ BB r (IN1 on len bytes k k2) := by
  have h1 := hK.2.2 k hk hk2
  have h2 := hK.2.2 k2 hq hq2
  have hg := hK.2.1
  unfold s_X8_occursIn
  refine loopR (fun fu d => s_X8_occursIn_2 fu on len bytes k k2 d) (fun d => (20 - d).toNat) (fun d => 0 ≤ d ∧ d ≤ 17 ∧ ∀ q, 0 ≤ q → q < d → q + len k ≤ len k2 → ¬ RE on bytes (16 * k) bytes (16 * k2 + q) (len k)) (fun r => BB r (IN1 on len bytes k k2)) ?_ FU 0 ⟨Int.le_refl _, by omega, fun q a b => by omega⟩ (FU_lt (by omega))
  intro fu d ⟨g1, g2, g3⟩
  simp only [s_X8_occursIn_2_s]
  by_cases c : len k2 < d + len k
  · left
    refine ⟨0, by simp (disch := omega) only [cLt_t, cLt_f, cEq_t, cEq_f, cLtL_t, cLtL_f, cEqL_t, cEqL_f, cR_t, cRL_t, cZ_t, cN_t, cCp_t, rdA_t, ob_e, bd1_e, bd2_e, bd3_e, bd4_e, bd5_e, bd6_e, bd7_e, bd8_e, bd9_e, bd10_e, bd12_e], Or.inr ⟨rfl, ?_⟩⟩
    rintro ⟨q, p1, p2, p3⟩
    exact g3 q p1 (by omega) p2 p3
  · obtain ⟨r, r1, r2⟩ := occursIn22_e hK o1 o2 hk hk2 hq hq2 g1 (show d + len k ≤ len k2 by omega)
    have r3 := r2.1
    have r4 := r2.2.1
    by_cases e : r = len k
    · left
      exact ⟨1, by simp (disch := omega) only [cLt_t, cLt_f, cEq_t, cEq_f, cLtL_t, cLtL_f, cEqL_t, cEqL_f, cR_t, cRL_t, cZ_t, cN_t, cCp_t, rdA_t, ob_e, bd1_e, bd2_e, bd3_e, bd4_e, bd5_e, bd6_e, bd7_e, bd8_e, bd9_e, bd10_e, bd12_e, r1], Or.inl ⟨rfl, d, g1, by omega, r2.full.mp e⟩⟩
    · right
      refine ⟨d + 1, ⟨by omega, by omega, fun q u w z => ?_⟩, by omega, by simp (disch := omega) only [cLt_t, cLt_f, cEq_t, cEq_f, cLtL_t, cLtL_f, cEqL_t, cEqL_f, cR_t, cRL_t, cZ_t, cN_t, cCp_t, rdA_t, ob_e, bd1_e, bd2_e, bd3_e, bd4_e, bd5_e, bd6_e, bd7_e, bd8_e, bd9_e, bd10_e, bd12_e, r1]⟩
      by_cases v : q = d
      · rw [v]; exact fun y => e (r2.full.mpr y)
      · exact g3 q u (by omega) z
theorem occursInAny_e {on gv k : Int} {len bytes wt live : Int → Int} (hK : KW gv len bytes wt live) (o1 : 0 ≤ on) (o2 : on ≤ 1) (hk : 0 ≤ k) (hk2 : k < gv) : ∃ r, s_X8_occursInAny gv on len bytes live k = some r ∧ BB r (INS on gv len bytes live k) := by
  have hg := hK.2.1
  have hg0 := hK.1
  unfold s_X8_occursInAny
  refine loopR (fun fu q => s_X8_occursInAny_2 fu gv on len bytes live k q) (fun q => (gv - q).toNat) (fun q => 0 ≤ q ∧ q ≤ gv ∧ ∀ k2, k2 < q → LV gv live k2 → k2 ≠ k → ¬ IN1 on len bytes k k2) (fun r => BB r (INS on gv len bytes live k)) ?_ FU 0 ⟨Int.le_refl _, hg0, fun k2 a b => by have := b.1; omega⟩ (FU_lt (by omega))
  intro fu q ⟨g1, g2, g3⟩
  simp only [s_X8_occursInAny_2_s]
  by_cases c : q < gv
  · have hq := hK.2.2 q g1 c
    rcases hq.2.2.2.2.1 with e | e
    · right
      refine ⟨q + 1, ⟨by omega, by omega, fun k2 a b d => ?_⟩, by omega, by simp (disch := omega) only [cLt_t, cLt_f, cEq_t, cEq_f, cLtL_t, cLtL_f, cEqL_t, cEqL_f, cR_t, cRL_t, cZ_t, cN_t, cCp_t, rdA_t, ob_e, bd1_e, bd2_e, bd3_e, bd4_e, bd5_e, bd6_e, bd7_e, bd8_e, bd9_e, bd10_e, bd12_e, e]⟩
      by_cases w : k2 = q
      · have := b.2.2; rw [w] at this; omega
      · exact g3 k2 (by omega) b d
    · by_cases w : q = k
      · right
        refine ⟨q + 1, ⟨by omega, by omega, fun k2 a b d => ?_⟩, by omega, by simp (disch := omega) only [cLt_t, cLt_f, cEq_t, cEq_f, cLtL_t, cLtL_f, cEqL_t, cEqL_f, cR_t, cRL_t, cZ_t, cN_t, cCp_t, rdA_t, ob_e, bd1_e, bd2_e, bd3_e, bd4_e, bd5_e, bd6_e, bd7_e, bd8_e, bd9_e, bd10_e, bd12_e, e]⟩
        by_cases v : k2 = q
        · omega
        · exact g3 k2 (by omega) b d
      · obtain ⟨r, r1, r2⟩ := occursIn_e hK o1 o2 hk hk2 g1 c
        rcases r2 with ⟨e1, e2⟩ | ⟨e1, e2⟩
        · left
          exact ⟨1, by simp (disch := omega) only [cLt_t, cLt_f, cEq_t, cEq_f, cLtL_t, cLtL_f, cEqL_t, cEqL_f, cR_t, cRL_t, cZ_t, cN_t, cCp_t, rdA_t, ob_e, bd1_e, bd2_e, bd3_e, bd4_e, bd5_e, bd6_e, bd7_e, bd8_e, bd9_e, bd10_e, bd12_e, e, r1], Or.inl ⟨rfl, q, ⟨g1, c, e⟩, w, e2⟩⟩
        · right
          refine ⟨q + 1, ⟨by omega, by omega, fun k2 a b d => ?_⟩, by omega, by simp (disch := omega) only [cLt_t, cLt_f, cEq_t, cEq_f, cLtL_t, cLtL_f, cEqL_t, cEqL_f, cR_t, cRL_t, cZ_t, cN_t, cCp_t, rdA_t, ob_e, bd1_e, bd2_e, bd3_e, bd4_e, bd5_e, bd6_e, bd7_e, bd8_e, bd9_e, bd10_e, bd12_e, e, r1]⟩
          by_cases v : k2 = q
          · rw [v]; exact e2
          · exact g3 k2 (by omega) b d
  · left
    refine ⟨0, by simp (disch := omega) only [cLt_t, cLt_f, cEq_t, cEq_f, cLtL_t, cLtL_f, cEqL_t, cEqL_f, cR_t, cRL_t, cZ_t, cN_t, cCp_t, rdA_t, ob_e, bd1_e, bd2_e, bd3_e, bd4_e, bd5_e, bd6_e, bd7_e, bd8_e, bd9_e, bd10_e, bd12_e], Or.inr ⟨rfl, ?_⟩⟩
    rintro ⟨k2, p1, p2, p3⟩
    exact g3 k2 (by have := p1.2.1; omega) p1 p2 p3
/-- every live keyword lies in one that lies in no other -/
theorem inside_top {on gv : Int} {len bytes wt live : Int → Int} (hK : KW gv len bytes wt live) (hd : DSJ on gv len bytes live) : ∀ (n : Nat) (k : Int), LV gv live k → 16 - len k ≤ n → ∃ k2, LV gv live k2 ∧ ¬ INS on gv len bytes live k2 ∧ IN1 on len bytes k k2 := by
  intro n
  induction n with
  | zero =>
    intro k hk hn
    refine ⟨k, hk, ?_, 0, Int.le_refl _, by omega, fun j a b => by rw [show 16 * k + 0 + j = 16 * k + j by omega]⟩
    rintro ⟨k2, p1, p2, d, q1, q2, q3⟩
    have h2 := hK.2.2 k2 p1.1 p1.2.1
    refine p2 (hd k2 k p1 hk (by omega) (fun j a b => ?_))
    have := q3 j a (by omega)
    rw [show 16 * k2 + d + j = 16 * k2 + j by omega] at this
    exact this.symm
  | succ n ih =>
    intro k hk hn
    by_cases c : INS on gv len bytes live k
    · obtain ⟨k2, p1, p2, d, q1, q2, q3⟩ := c
      have hl : len k < len k2 := by
        rcases Int.lt_or_le (len k) (len k2) with w | w
        · exact w
        · refine absurd (hd k2 k p1 hk (by omega) (fun j a b => ?_)) p2
          have := q3 j a (by omega)
          rw [show 16 * k2 + d + j = 16 * k2 + j by omega] at this
          exact this.symm
      obtain ⟨k3, r1, r2, d3, s1, s2, s3⟩ := ih k2 p1 (by omega)
      refine ⟨k3, r1, r2, d3 + d, by omega, by omega, fun j a b => ?_⟩
      have t1 := q3 j a b
      have t2 := s3 (d + j) (by omega) (by omega)
      rw [show 16 * k2 + (d + j) = 16 * k2 + d + j by omega, show 16 * k3 + d3 + (d + j) = 16 * k3 + (d3 + d) + j by omega] at t2
      rw [t1, t2]
    · exact ⟨k, hk, c, 0, Int.le_refl _, by omega, fun j a b => by rw [show 16 * k + 0 + j = 16 * k + j by omega]⟩
