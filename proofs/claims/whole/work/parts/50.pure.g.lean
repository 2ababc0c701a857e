theorem X8_begins_e {gv on k a e x : Int} {len bytes wt live : Int → Int} (hK : KW gv len bytes wt live) (o1 : 0 ≤ on) (o2 : on ≤ 1) (hk1 : 0 ≤ k) (hk2 : k < gv) (hx1 : 0 ≤ x) (hx2 : x < gv) (ha : 0 ≤ a) (hae : a ≤ e) (he : e ≤ len k) : ∃ r, s_X8_begins on len bytes k a e x = some r ∧ BB r (PF on len bytes bytes (16 * k + a) (e - a) x) := by
  have hg := hK.2.1
  have hk := hK.2.2 k hk1 hk2
  have hx := hK.2.2 x hx1 hx2
  unfold s_X8_begins
  by_cases h : len x < e - a
  · refine ⟨0, ?_, Or.inr ⟨rfl, fun q => by have := q.1; omega⟩⟩
    simp (disch := omega) only [cLt_t, cLt_f, cEq_t, cEq_f, cLtL_t, cLtL_f, cEqL_t, cEqL_f, cR_t, cRL_t, cZ_t, cN_t, cCp_t, rdA_t, ob_e, bd1_e, bd2_e, bd3_e, bd4_e, bd5_e, bd6_e, bd7_e, bd8_e, bd9_e, bd10_e, bd12_e]
  · have := loopR (fun fu i => s_X8_begins_18 fu on bytes k a e x i) (fun i => (e - i).toNat) (fun i => a ≤ i ∧ i ≤ e ∧ ∀ j, 0 ≤ j → j < i - a → fo on (bytes (16 * x + j)) = fo on (bytes (16 * k + a + j))) (fun r => BB r (PF on len bytes bytes (16 * k + a) (e - a) x)) ?_ FU a ⟨by omega, by omega, fun j p q => by omega⟩ (FU_lt (by omega))
    · obtain ⟨r, e1, e2⟩ := this
      have e1 : s_X8_begins_18 FU on bytes k a e x a = some r := e1
      exact ⟨r, by simp (disch := omega) only [cLt_t, cLt_f, cEq_t, cEq_f, cLtL_t, cLtL_f, cEqL_t, cEqL_f, cR_t, cRL_t, cZ_t, cN_t, cCp_t, rdA_t, ob_e, bd1_e, bd2_e, bd3_e, bd4_e, bd5_e, bd6_e, bd7_e, bd8_e, bd9_e, bd10_e, bd12_e, e1], e2⟩
    · intro fu i ⟨g1, g2, g3⟩
      simp only [s_X8_begins_18_s]
      by_cases hi : i < e
      · have b1 := hk.2.2.2.2.2 i (by omega) (by omega)
        have b2 := hx.2.2.2.2.2 (i - a) (by omega) (by omega)
        have e3 : 16 * k + a + (i - a) = 16 * k + i := by omega
        by_cases he2 : fo on (bytes (16 * k + i)) = fo on (bytes (16 * x + (i - a)))
        · right
          refine ⟨i + 1, ⟨by omega, by omega, fun j p q => ?_⟩, by omega, ?_⟩
          · by_cases hj : j = i - a
            · subst hj; rw [e3]; exact he2.symm
            · exact g3 j p (by omega)
          · simp (disch := omega) only [cLt_t, cLt_f, cEq_t, cEq_f, cLtL_t, cLtL_f, cEqL_t, cEqL_f, cR_t, cRL_t, cZ_t, cN_t, cCp_t, rdA_t, ob_e, bd1_e, bd2_e, bd3_e, bd4_e, bd5_e, bd6_e, bd7_e, bd8_e, bd9_e, bd10_e, bd12_e, X8_byteOf_e, X8_like_e, if_pos he2]
        · left
          refine ⟨0, ?_, Or.inr ⟨rfl, fun q => he2 ?_⟩⟩
          · simp (disch := omega) only [cLt_t, cLt_f, cEq_t, cEq_f, cLtL_t, cLtL_f, cEqL_t, cEqL_f, cR_t, cRL_t, cZ_t, cN_t, cCp_t, rdA_t, ob_e, bd1_e, bd2_e, bd3_e, bd4_e, bd5_e, bd6_e, bd7_e, bd8_e, bd9_e, bd10_e, bd12_e, X8_byteOf_e, X8_like_e, if_neg he2]
          · have := q.2 (i - a) (by omega) (by omega)
            rw [e3] at this
            exact this.symm
      · left
        refine ⟨1, ?_, Or.inl ⟨rfl, by omega, fun j p q => g3 j p (by omega)⟩⟩
        simp (disch := omega) only [cLt_t, cLt_f, cEq_t, cEq_f, cLtL_t, cLtL_f, cEqL_t, cEqL_f, cR_t, cRL_t, cZ_t, cN_t, cCp_t, rdA_t, ob_e, bd1_e, bd2_e, bd3_e, bd4_e, bd5_e, bd6_e, bd7_e, bd8_e, bd9_e, bd10_e, bd12_e]
theorem op_failureLength {gv on c k n th : Int} {len bytes wt live mem size list : Int → Int} (hK : KW gv len bytes wt live) (o1 : 0 ≤ on) (o2 : on ≤ 1) (hB : BK 0 c mem size list) (hM : MB gv c mem) (hc0 : 0 ≤ c) (hc : c < 128) (h3 : -2147483648 ≤ k) (h4 : k < 2147483648) (h5 : -2147483648 ≤ n) (h6 : n < 2147483648) : ∃ r, s_X7_failureLength on gv bytes len c mem k n = some r ∧ s_X8_failureLength th gv on len bytes size list k n = some (r, 0) := by
  have hg0 := hK.1
  have hg := hK.2.1
  unfold s_X7_failureLength s_X8_failureLength
  by_cases h : 0 ≤ k ∧ k < gv
  · have hk := hK.2.2 k h.1 h.2
    by_cases hn : 1 ≤ n ∧ n ≤ len k
    · obtain ⟨lv, a1, a2⟩ := X0_levelWith_e hg hM h.1 h.2 hc0 hc
      obtain ⟨lw, b1, b2⟩ := X8_levelFound_e hB hg hM h.1 h.2 hc0 hc
      have e := a2.uniq b2
      subst e
      have hrg := a2.rg (by omega)
      by_cases hl : lv = -1
      · exact ⟨-1, by simp (disch := omega) only [cLt_t, cLt_f, cEq_t, cEq_f, cLtL_t, cLtL_f, cEqL_t, cEqL_f, cR_t, cRL_t, cZ_t, cN_t, cCp_t, rdA_t, ob_e, bd1_e, bd2_e, bd3_e, bd4_e, bd5_e, bd6_e, bd7_e, bd8_e, bd9_e, bd10_e, bd12_e, X3_isGiven_e, if_pos h, X3_lengthOf_e, a1], by simp (disch := omega) only [cLt_t, cLt_f, cEq_t, cEq_f, cLtL_t, cLtL_f, cEqL_t, cEqL_f, cR_t, cRL_t, cZ_t, cN_t, cCp_t, rdA_t, ob_e, bd1_e, bd2_e, bd3_e, bd4_e, bd5_e, bd6_e, bd7_e, bd8_e, bd9_e, bd10_e, bd12_e, X8_isGiven_e, if_pos h, X8_isIn_e, if_pos hn, b1]⟩
      · have hl2 : 0 ≤ lv ∧ lv < 7 := by rcases a2 with ⟨q, -⟩ | ⟨q1, q2, -⟩ <;> omega
        have hr := sz_rg hc0 hc hl2.1 hl2.2
        have hp := p2_rg hl2.1 hl2.2
        have hb := hB lv hl2.1 hl2.2
        rw [Int.zero_add] at hb
        obtain ⟨r, d1, d2⟩ := X7_longestPrefixBefore_e (m := 1920) (txt := bytes) (mem := mem) (c := c) (l := lv) (e := 16 * k + n) (most := n - 1) hK o1 o2 (by omega) hM hc0 hc hl2.1 hl2.2 (by omega) (by omega) (by omega) (by omega) (by rw [show 16 * k + n - (n - 1) = 16 * k + 1 by omega]; exact hK.rb2 h.1 h.2 (by omega) (by omega))
        have main := loopR (fun fu q => s_X8_failureLength_53 fu 0 on len bytes size list k n lv q) (fun q => q.toNat) (fun q => 0 ≤ q ∧ q ≤ n - 1 ∧ ∀ j, q < j → j ≤ n - 1 → ¬ INB c mem lv (PF on len bytes bytes (16 * k + n - j) j)) (fun s => s.2 = 0 ∧ DN (fun j => INB c mem lv (PF on len bytes bytes (16 * k + n - j) j)) (n - 1) s.1) ?_ FU (n - 1) ⟨by omega, by omega, fun j x y => by omega⟩ (FU_lt (by omega))
        · obtain ⟨⟨s, t⟩, s1, s2, s3⟩ := main
          have s1 : s_X8_failureLength_53 FU 0 on len bytes size list k n lv (n - 1) = some (s, t) := s1
          have s2 : t = 0 := s2
          have s3 : DN (fun j => INB c mem lv (PF on len bytes bytes (16 * k + n - j) j)) (n - 1) s := s3
          have e := d2.uniq s3
          subst e
          subst s2
          exact ⟨r, by simp (disch := omega) only [cLt_t, cLt_f, cEq_t, cEq_f, cLtL_t, cLtL_f, cEqL_t, cEqL_f, cR_t, cRL_t, cZ_t, cN_t, cCp_t, rdA_t, ob_e, bd1_e, bd2_e, bd3_e, bd4_e, bd5_e, bd6_e, bd7_e, bd8_e, bd9_e, bd10_e, bd12_e, X3_isGiven_e, if_pos h, X3_lengthOf_e, a1, X3_firstByteOf_e, d1], by simp (disch := omega) only [cLt_t, cLt_f, cEq_t, cEq_f, cLtL_t, cLtL_f, cEqL_t, cEqL_f, cR_t, cRL_t, cZ_t, cN_t, cCp_t, rdA_t, ob_e, bd1_e, bd2_e, bd3_e, bd4_e, bd5_e, bd6_e, bd7_e, bd8_e, bd9_e, bd10_e, bd12_e, X8_isGiven_e, if_pos h, X8_isIn_e, if_pos hn, b1, s1]⟩
        · intro fu q ⟨g1, g2, g3⟩
          simp only [s_X8_failureLength_53_s]
          by_cases hq : 0 < q
          · have inner := loopR (fun fu i => s_X8_failureLength_61 fu 0 on len bytes size list k n lv q i) (fun i => (szc c lv - i).toNat) (fun i => 0 ≤ i ∧ i ≤ szc c lv ∧ ∀ j, 0 ≤ j → j < i → ¬ PF on len bytes bytes (16 * k + n - q) q (list (128 * lv + j))) (fun out => (out = .inl (q, 0) ∧ INB c mem lv (PF on len bytes bytes (16 * k + n - q) q)) ∨ (out = .inr () ∧ ¬ INB c mem lv (PF on len bytes bytes (16 * k + n - q) q))) ?_ FU 0 ⟨by omega, by omega, fun j x y => by omega⟩ (FU_lt (by omega))
            · obtain ⟨out, e1, e2⟩ := inner
              have e1 : s_X8_failureLength_61 FU 0 on len bytes size list k n lv q 0 = some out := e1
              rcases e2 with ⟨rfl, e2⟩ | ⟨rfl, e2⟩
              · left
                refine ⟨(q, 0), ?_, rfl, Or.inr ⟨by show 1 ≤ q; omega, g2, e2, g3⟩⟩
                simp (disch := omega) only [cLt_t, cLt_f, cEq_t, cEq_f, cLtL_t, cLtL_f, cEqL_t, cEqL_f, cR_t, cRL_t, cZ_t, cN_t, cCp_t, rdA_t, ob_e, bd1_e, bd2_e, bd3_e, bd4_e, bd5_e, bd6_e, bd7_e, bd8_e, bd9_e, bd10_e, bd12_e, e1]
                rfl
              · right
                refine ⟨q + -1, ⟨by omega, by omega, fun j x y => ?_⟩, by omega, ?_⟩
                · by_cases hj : j = q
                  · subst hj; exact e2
                  · exact g3 j (by omega) y
                · simp (disch := omega) only [cLt_t, cLt_f, cEq_t, cEq_f, cLtL_t, cLtL_f, cEqL_t, cEqL_f, cR_t, cRL_t, cZ_t, cN_t, cCp_t, rdA_t, ob_e, bd1_e, bd2_e, bd3_e, bd4_e, bd5_e, bd6_e, bd7_e, bd8_e, bd9_e, bd10_e, bd12_e, e1]
                  rfl
            · intro fu i ⟨f1, f2, f3⟩
              simp only [s_X8_failureLength_61_s]
              by_cases hi : i < szc c lv
              · have hv := hb.2 i f1 hi
                have hm := hM (fsc c lv + szc c lv - 1 - i) (by omega) (by omega)
                rw [← hv] at hm
                obtain ⟨z, z1, z2⟩ := X8_begins_e (k := k) (a := n - q) (e := n) (x := list (128 * lv + i)) hK o1 o2 h.1 h.2 hm.1 hm.2 (by omega) (by omega) (by omega)
                rw [show 16 * k + (n - q) = 16 * k + n - q by omega, show n - (n - q) = q by omega] at z2
                rcases z2 with ⟨y1, y2⟩ | ⟨y1, y2⟩
                · left
                  refine ⟨_, ?_, Or.inl ⟨rfl, (INB.list hB hl2.1 hl2.2).mpr ⟨i, f1, hi, y2⟩⟩⟩
                  simp (disch := omega) only [cLt_t, cLt_f, cEq_t, cEq_f, cLtL_t, cLtL_f, cEqL_t, cEqL_f, cR_t, cRL_t, cZ_t, cN_t, cCp_t, rdA_t, ob_e, bd1_e, bd2_e, bd3_e, bd4_e, bd5_e, bd6_e, bd7_e, bd8_e, bd9_e, bd10_e, bd12_e, hb.1, z1]
                · right
                  refine ⟨i + 1, ⟨by omega, by omega, fun j x y => ?_⟩, by omega, ?_⟩
                  · by_cases hj : j = i
                    · subst hj; exact y2
                    · exact f3 j x (by omega)
                  · simp (disch := omega) only [cLt_t, cLt_f, cEq_t, cEq_f, cLtL_t, cLtL_f, cEqL_t, cEqL_f, cR_t, cRL_t, cZ_t, cN_t, cCp_t, rdA_t, ob_e, bd1_e, bd2_e, bd3_e, bd4_e, bd5_e, bd6_e, bd7_e, bd8_e, bd9_e, bd10_e, bd12_e, hb.1, z1]
              · left
                refine ⟨_, ?_, Or.inr ⟨rfl, fun w => ?_⟩⟩
                · simp (disch := omega) only [cLt_t, cLt_f, cEq_t, cEq_f, cLtL_t, cLtL_f, cEqL_t, cEqL_f, cR_t, cRL_t, cZ_t, cN_t, cCp_t, rdA_t, ob_e, bd1_e, bd2_e, bd3_e, bd4_e, bd5_e, bd6_e, bd7_e, bd8_e, bd9_e, bd10_e, bd12_e, hb.1]
                · obtain ⟨j, x, y, w⟩ := (INB.list hB hl2.1 hl2.2).mp w
                  exact f3 j x (by omega) w
          · left
            refine ⟨(0, 0), ?_, rfl, Or.inl ⟨rfl, fun j x y => g3 j (by omega) y⟩⟩
            simp (disch := omega) only [cLt_t, cLt_f, cEq_t, cEq_f, cLtL_t, cLtL_f, cEqL_t, cEqL_f, cR_t, cRL_t, cZ_t, cN_t, cCp_t, rdA_t, ob_e, bd1_e, bd2_e, bd3_e, bd4_e, bd5_e, bd6_e, bd7_e, bd8_e, bd9_e, bd10_e, bd12_e]
    · refine ⟨-3, ?_, ?_⟩
      · by_cases z : n < 1
        · simp (disch := omega) only [cLt_t, cLt_f, cEq_t, cEq_f, cLtL_t, cLtL_f, cEqL_t, cEqL_f, cR_t, cRL_t, cZ_t, cN_t, cCp_t, rdA_t, ob_e, bd1_e, bd2_e, bd3_e, bd4_e, bd5_e, bd6_e, bd7_e, bd8_e, bd9_e, bd10_e, bd12_e, X3_isGiven_e, if_pos h]
        · simp (disch := omega) only [cLt_t, cLt_f, cEq_t, cEq_f, cLtL_t, cLtL_f, cEqL_t, cEqL_f, cR_t, cRL_t, cZ_t, cN_t, cCp_t, rdA_t, ob_e, bd1_e, bd2_e, bd3_e, bd4_e, bd5_e, bd6_e, bd7_e, bd8_e, bd9_e, bd10_e, bd12_e, X3_isGiven_e, if_pos h, X3_lengthOf_e]
      · simp (disch := omega) only [cLt_t, cLt_f, cEq_t, cEq_f, cLtL_t, cLtL_f, cEqL_t, cEqL_f, cR_t, cRL_t, cZ_t, cN_t, cCp_t, rdA_t, ob_e, bd1_e, bd2_e, bd3_e, bd4_e, bd5_e, bd6_e, bd7_e, bd8_e, bd9_e, bd10_e, bd12_e, X8_isGiven_e, if_pos h, X8_isIn_e, if_neg hn]
  · exact ⟨-2, by simp (disch := omega) only [cLt_t, cLt_f, cEq_t, cEq_f, cLtL_t, cLtL_f, cEqL_t, cEqL_f, cR_t, cRL_t, cZ_t, cN_t, cCp_t, rdA_t, ob_e, bd1_e, bd2_e, bd3_e, bd4_e, bd5_e, bd6_e, bd7_e, bd8_e, bd9_e, bd10_e, bd12_e, X3_isGiven_e, if_neg h], by simp (disch := omega) only [cLt_t, cLt_f, cEq_t, cEq_f, cLtL_t, cLtL_f, cEqL_t, cEqL_f, cR_t, cRL_t, cZ_t, cN_t, cCp_t, rdA_t, ob_e, bd1_e, bd2_e, bd3_e, bd4_e, bd5_e, bd6_e, bd7_e, bd8_e, bd9_e, bd10_e, bd12_e, X8_isGiven_e, if_neg h]⟩
theorem op_currentDepth {gv on c l sl th : Int} {len bytes wt live mem size list str : Int → Int} (hK : KW gv len bytes wt live) (o1 : 0 ≤ on) (o2 : on ≤ 1) (hB : BK 0 c mem size list) (hM : MB gv c mem) (hc0 : 0 ≤ c) (hc : c < 128) (hs1 : 0 ≤ sl) (hs2 : sl ≤ 600) (hS : RB str 0 600) (h3 : -2147483648 ≤ l) (h4 : l < 2147483648) : ∃ r, s_X7_currentDepth on gv bytes len c mem sl str l = some r ∧ s_X8_currentDepth th on sl len bytes size list str l = some (r, 0) := by
  have hg0 := hK.1
  have hg := hK.2.1
  unfold s_X7_currentDepth s_X8_currentDepth
  by_cases h : 0 ≤ l ∧ l < 7
  · have hr := sz_rg hc0 hc h.1 h.2
    have hp := p2_rg h.1 h.2
    have hb := hB l h.1 h.2
    rw [Int.zero_add] at hb
    by_cases hz : szc c l = 0
    · exact ⟨-1, by simp (disch := omega) only [cLt_t, cLt_f, cEq_t, cEq_f, cLtL_t, cLtL_f, cEqL_t, cEqL_f, cR_t, cRL_t, cZ_t, cN_t, cCp_t, rdA_t, ob_e, bd1_e, bd2_e, bd3_e, bd4_e, bd5_e, bd6_e, bd7_e, bd8_e, bd9_e, bd10_e, bd12_e, X7_isLevel_e, if_pos h, X0_sizeAt_e], by simp (disch := omega) only [cLt_t, cLt_f, cEq_t, cEq_f, cLtL_t, cLtL_f, cEqL_t, cEqL_f, cR_t, cRL_t, cZ_t, cN_t, cCp_t, rdA_t, ob_e, bd1_e, bd2_e, bd3_e, bd4_e, bd5_e, bd6_e, bd7_e, bd8_e, bd9_e, bd10_e, bd12_e, X8_isLevel_e, if_pos h, hb.1]⟩
    · have em : 0 ≤ iMin 16 sl ∧ iMin 16 sl ≤ 16 ∧ iMin 16 sl ≤ sl ∧ (iMin 16 sl = 16 ∨ iMin 16 sl = sl) := by unfold iMin; split <;> omega
      obtain ⟨r, d1, d2⟩ := X7_longestPrefixBefore_e (m := 600) (txt := str) (mem := mem) (c := c) (l := l) (e := sl) (most := iMin 16 sl) hK o1 o2 (by omega) hM hc0 hc h.1 h.2 (by omega) (by omega) (by omega) (by omega) (fun j a b => by have := hS (sl - iMin 16 sl + j) (by omega) (by omega); rw [Int.zero_add] at this; exact this)
      have outer := loopR (fun fu (st : Int × Int) => s_X8_currentDepth_30 fu on sl len bytes size list str l st.1 st.2) (fun st => (szc c l - st.2).toNat) (fun st => 0 ≤ st.2 ∧ st.2 ≤ szc c l ∧ (st.1 = 0 ∨ (1 ≤ st.1 ∧ st.1 ≤ iMin 16 sl ∧ INB c mem l (PF on len bytes str (sl - st.1) st.1))) ∧ ∀ j, 0 ≤ j → j < st.2 → ∀ n, 1 ≤ n → n ≤ iMin 16 sl → PF on len bytes str (sl - n) n (list (128 * l + j)) → n ≤ st.1) (fun s => DN (fun n => INB c mem l (PF on len bytes str (sl - n) n)) (iMin 16 sl) s) ?_ FU (0, 0) ⟨Int.le_refl _, by show 0 ≤ szc c l; omega, Or.inl rfl, fun j x y => by have : j < 0 := y; omega⟩ (FU_lt (by show (szc c l - 0).toNat < _; omega))
      · obtain ⟨s, s1, s2⟩ := outer
        have s1 : s_X8_currentDepth_30 FU on sl len bytes size list str l 0 0 = some s := s1
        have e := d2.uniq s2
        subst e
        exact ⟨r, by simp (disch := omega) only [cLt_t, cLt_f, cEq_t, cEq_f, cLtL_t, cLtL_f, cEqL_t, cEqL_f, cR_t, cRL_t, cZ_t, cN_t, cCp_t, rdA_t, ob_e, bd1_e, bd2_e, bd3_e, bd4_e, bd5_e, bd6_e, bd7_e, bd8_e, bd9_e, bd10_e, bd12_e, X7_isLevel_e, if_pos h, X0_sizeAt_e, d1], by simp (disch := omega) only [cLt_t, cLt_f, cEq_t, cEq_f, cLtL_t, cLtL_f, cEqL_t, cEqL_f, cR_t, cRL_t, cZ_t, cN_t, cCp_t, rdA_t, ob_e, bd1_e, bd2_e, bd3_e, bd4_e, bd5_e, bd6_e, bd7_e, bd8_e, bd9_e, bd10_e, bd12_e, X8_isLevel_e, if_pos h, hb.1, s1]⟩
      · intro fu ⟨mo, i⟩ ⟨g1, g2, g3, g4⟩
        have g1 : 0 ≤ i := g1
        have g2 : i ≤ szc c l := g2
        have g3 : mo = 0 ∨ (1 ≤ mo ∧ mo ≤ iMin 16 sl ∧ INB c mem l (PF on len bytes str (sl - mo) mo)) := g3
        have g4 : ∀ j, 0 ≤ j → j < i → ∀ n, 1 ≤ n → n ≤ iMin 16 sl → PF on len bytes str (sl - n) n (list (128 * l + j)) → n ≤ mo := g4
        simp only [s_X8_currentDepth_30_s]
        by_cases hi : i < szc c l
        · right
          have hv := hb.2 i g1 hi
          have hm := hM (fsc c l + szc c l - 1 - i) (by omega) (by omega)
          rw [← hv] at hm
          have hx := hK.2.2 (list (128 * l + i)) hm.1 hm.2
          have inner := loopR (fun fu (st : Int × Int) => s_X8_currentDepth_57 fu on sl len bytes str l st.1 i (list (128 * l + i)) st.2) (fun st => (20 - st.2).toNat) (fun st => 1 ≤ st.2 ∧ st.2 ≤ 17 ∧ mo ≤ st.1 ∧ (st.1 = mo ∨ (1 ≤ st.1 ∧ st.1 ≤ iMin 16 sl ∧ PF on len bytes str (sl - st.1) st.1 (list (128 * l + i)))) ∧ ∀ n, 1 ≤ n → n < st.2 → n ≤ iMin 16 sl → PF on len bytes str (sl - n) n (list (128 * l + i)) → n ≤ st.1) (fun s => mo ≤ s ∧ (s = mo ∨ (1 ≤ s ∧ s ≤ iMin 16 sl ∧ PF on len bytes str (sl - s) s (list (128 * l + i)))) ∧ ∀ n, 1 ≤ n → n ≤ iMin 16 sl → PF on len bytes str (sl - n) n (list (128 * l + i)) → n ≤ s) ?_ FU (mo, 1) ⟨Int.le_refl _, by show (1 : Int) ≤ 17; omega, Int.le_refl _, Or.inl rfl, fun n a b => by have : n < 1 := b; omega⟩ (FU_lt (by show ((20 : Int) - 1).toNat < _; omega))
          · obtain ⟨s, s1, s2, s3, s4⟩ := inner
            have s1 : s_X8_currentDepth_57 FU on sl len bytes str l mo i (list (128 * l + i)) 1 = some s := s1
            refine ⟨(s, i + 1), ⟨by show 0 ≤ i + 1; omega, by show i + 1 ≤ szc c l; omega, ?_, ?_⟩, by show (szc c l - (i + 1)).toNat < (szc c l - i).toNat; omega, ?_⟩
            · show s = 0 ∨ (1 ≤ s ∧ s ≤ iMin 16 sl ∧ INB c mem l (PF on len bytes str (sl - s) s))
              rcases s3 with s3 | ⟨p1, p2, p3⟩
              · rw [s3]; exact g3
              · exact Or.inr ⟨p1, p2, (INB.list hB h.1 h.2).mpr ⟨i, g1, hi, p3⟩⟩
            · intro j x y n a b p
              show n ≤ s
              have y : j < i + 1 := y
              by_cases hj : j = i
              · subst hj; exact s4 n a b p
              · have := g4 j x (by omega) n a b p; omega
            · simp (disch := omega) only [cLt_t, cLt_f, cEq_t, cEq_f, cLtL_t, cLtL_f, cEqL_t, cEqL_f, cR_t, cRL_t, cZ_t, cN_t, cCp_t, rdA_t, ob_e, bd1_e, bd2_e, bd3_e, bd4_e, bd5_e, bd6_e, bd7_e, bd8_e, bd9_e, bd10_e, bd12_e, hb.1, s1]
          · intro fu ⟨m2, n⟩ ⟨f1, f2, f3, f4, f5⟩
            have f1 : 1 ≤ n := f1
            have f2 : n ≤ 17 := f2
            have f3 : mo ≤ m2 := f3
            have f4 : m2 = mo ∨ (1 ≤ m2 ∧ m2 ≤ iMin 16 sl ∧ PF on len bytes str (sl - m2) m2 (list (128 * l + i))) := f4
            have f5 : ∀ n', 1 ≤ n' → n' < n → n' ≤ iMin 16 sl → PF on len bytes str (sl - n') n' (list (128 * l + i)) → n' ≤ m2 := f5
            have hm2 : 0 ≤ m2 ∧ m2 ≤ 16 := by rcases g3 with g | g <;> rcases f4 with f | f <;> omega
            simp only [s_X8_currentDepth_57_s]
            by_cases c1 : len (list (128 * l + i)) < n
            · left
              refine ⟨m2, ?_, f3, f4, fun n' a b p => ?_⟩
              · simp (disch := omega) only [cLt_t, cLt_f, cEq_t, cEq_f, cLtL_t, cLtL_f, cEqL_t, cEqL_f, cR_t, cRL_t, cZ_t, cN_t, cCp_t, rdA_t, ob_e, bd1_e, bd2_e, bd3_e, bd4_e, bd5_e, bd6_e, bd7_e, bd8_e, bd9_e, bd10_e, bd12_e]
              · by_cases z : n' < n
                · exact f5 n' a z b p
                · have := p.1; omega
            · by_cases c2 : sl < n
              · left
                refine ⟨m2, ?_, f3, f4, fun n' a b p => ?_⟩
                · simp (disch := omega) only [cLt_t, cLt_f, cEq_t, cEq_f, cLtL_t, cLtL_f, cEqL_t, cEqL_f, cR_t, cRL_t, cZ_t, cN_t, cCp_t, rdA_t, ob_e, bd1_e, bd2_e, bd3_e, bd4_e, bd5_e, bd6_e, bd7_e, bd8_e, bd9_e, bd10_e, bd12_e]
                · exact f5 n' a (by omega) b p
              · by_cases c3 : m2 < n
                · obtain ⟨z, z1, z2⟩ := X8_isInStream_e (on := on) (sl := sl) (k := list (128 * l + i)) (a := sl - n) (n := n) (bytes := bytes) (str := str) o1 o2 (by omega) (by omega) (by omega) (by omega) hs1 hs2 (by omega) (by omega) (hK.rb hm.1 hm.2 (by omega)) (fun j a b => hS j a (by omega))
                  rcases z2 with ⟨y1, y2⟩ | ⟨y1, y2⟩
                  · right
                    refine ⟨(n, n + 1), ⟨by show 1 ≤ n + 1; omega, by show n + 1 ≤ 17; omega, by show mo ≤ n; omega, Or.inr ⟨f1, by show n ≤ iMin 16 sl; omega, ?_, y2.2.2⟩, fun n' a b c d => by show n' ≤ n; have : n' < n + 1 := b; omega⟩, by show ((20 : Int) - (n + 1)).toNat < (20 - n).toNat; omega, ?_⟩
                    · show n ≤ _
                      omega
                    · simp (disch := omega) only [cLt_t, cLt_f, cEq_t, cEq_f, cLtL_t, cLtL_f, cEqL_t, cEqL_f, cR_t, cRL_t, cZ_t, cN_t, cCp_t, rdA_t, ob_e, bd1_e, bd2_e, bd3_e, bd4_e, bd5_e, bd6_e, bd7_e, bd8_e, bd9_e, bd10_e, bd12_e, z1]
                  · right
                    refine ⟨(m2, n + 1), ⟨by show 1 ≤ n + 1; omega, by show n + 1 ≤ 17; omega, f3, f4, fun n' a b c d => ?_⟩, by show ((20 : Int) - (n + 1)).toNat < (20 - n).toNat; omega, ?_⟩
                    · have b : n' < n + 1 := b
                      by_cases hn : n' = n
                      · subst hn; exact absurd ⟨by omega, by omega, d.2⟩ y2
                      · exact f5 n' a (by omega) c d
                    · simp (disch := omega) only [cLt_t, cLt_f, cEq_t, cEq_f, cLtL_t, cLtL_f, cEqL_t, cEqL_f, cR_t, cRL_t, cZ_t, cN_t, cCp_t, rdA_t, ob_e, bd1_e, bd2_e, bd3_e, bd4_e, bd5_e, bd6_e, bd7_e, bd8_e, bd9_e, bd10_e, bd12_e, z1]
                · right
                  refine ⟨(m2, n + 1), ⟨by show 1 ≤ n + 1; omega, by show n + 1 ≤ 17; omega, f3, f4, fun n' a b c d => ?_⟩, by show ((20 : Int) - (n + 1)).toNat < (20 - n).toNat; omega, ?_⟩
                  · have b : n' < n + 1 := b
                    show n' ≤ m2
                    omega
                  · simp (disch := omega) only [cLt_t, cLt_f, cEq_t, cEq_f, cLtL_t, cLtL_f, cEqL_t, cEqL_f, cR_t, cRL_t, cZ_t, cN_t, cCp_t, rdA_t, ob_e, bd1_e, bd2_e, bd3_e, bd4_e, bd5_e, bd6_e, bd7_e, bd8_e, bd9_e, bd10_e, bd12_e]
        · left
          refine ⟨mo, ?_, ?_⟩
          · have : 0 ≤ mo ∧ mo ≤ 16 := by rcases g3 with g | g <;> omega
            simp (disch := omega) only [cLt_t, cLt_f, cEq_t, cEq_f, cLtL_t, cLtL_f, cEqL_t, cEqL_f, cR_t, cRL_t, cZ_t, cN_t, cCp_t, rdA_t, ob_e, bd1_e, bd2_e, bd3_e, bd4_e, bd5_e, bd6_e, bd7_e, bd8_e, bd9_e, bd10_e, bd12_e, hb.1]
          · have up : ∀ n, 1 ≤ n → n ≤ iMin 16 sl → INB c mem l (PF on len bytes str (sl - n) n) → n ≤ mo := fun n a b p => by
              obtain ⟨j, x, y, w⟩ := (INB.list hB h.1 h.2).mp p
              exact g4 j x (by omega) n a b w
            rcases g3 with g | ⟨q1, q2, q3⟩
            · exact Or.inl ⟨g, fun n a b p => by have := up n a b p; omega⟩
            · exact Or.inr ⟨q1, q2, q3, fun n a b p => by have := up n (by omega) b p; omega⟩
  · exact ⟨-3, by simp (disch := omega) only [cLt_t, cLt_f, cEq_t, cEq_f, cLtL_t, cLtL_f, cEqL_t, cEqL_f, cR_t, cRL_t, cZ_t, cN_t, cCp_t, rdA_t, ob_e, bd1_e, bd2_e, bd3_e, bd4_e, bd5_e, bd6_e, bd7_e, bd8_e, bd9_e, bd10_e, bd12_e, X7_isLevel_e, if_neg h], by simp (disch := omega) only [cLt_t, cLt_f, cEq_t, cEq_f, cLtL_t, cLtL_f, cEqL_t, cEqL_f, cR_t, cRL_t, cZ_t, cN_t, cCp_t, rdA_t, ob_e, bd1_e, bd2_e, bd3_e, bd4_e, bd5_e, bd6_e, bd7_e, bd8_e, bd9_e, bd10_e, bd12_e, X8_isLevel_e, if_neg h]⟩
