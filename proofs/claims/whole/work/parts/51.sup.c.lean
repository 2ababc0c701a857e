/-! ===== the superstring: the model's elements, their heads and tails ===== -/
def eg (l : Int) : Int := if l < 15 then l else 15
theorem eg_rg {l : Int} (h : 0 ≤ l) : 0 ≤ eg l ∧ eg l ≤ 15 ∧ eg l ≤ l ∧ (l < 15 → eg l = l) ∧ (15 ≤ l → eg l = 15) := by
  unfold eg; split <;> omega
/-- element e's length, head and tail are those of a run -/
def HT (lg hd tl : Int → Int) (e : Int) (f : Int → Int) (a l : Int) : Prop := lg e = l ∧ (∀ j, 0 ≤ j → j < l → j < 15 → hd (15 * e + j) = f (a + j)) ∧ ∀ j, 0 ≤ j → j < eg l → tl (15 * e + j) = f (a + l - eg l + j)
theorem HT.cg {lg hd tl lg2 hd2 tl2 : Int → Int} {e a l a2 : Int} {f f2 : Int → Int} (h : HT lg hd tl e f a l) (h0 : 0 ≤ l) (e1 : lg2 e = lg e) (e2 : ∀ j, 0 ≤ j → j < 15 → hd2 (15 * e + j) = hd (15 * e + j) ∧ tl2 (15 * e + j) = tl (15 * e + j)) (ef : ∀ j, 0 ≤ j → j < l → f2 (a2 + j) = f (a + j)) : HT lg2 hd2 tl2 e f2 a2 l := by
  have q := eg_rg h0
  refine ⟨by rw [e1]; exact h.1, fun j x y z => ?_, fun j x y => ?_⟩
  · rw [(e2 j x z).1, h.2.1 j x y z, ef j x y]
  · rw [(e2 j x (by omega)).2, h.2.2 j x y, show a2 + l - eg l + j = a2 + (l - eg l + j) by omega, ef _ (by omega) (by omega), show a + (l - eg l + j) = a + l - eg l + j by omega]
theorem edgeOf_e {lg : Int → Int} {e l : Int} (h1 : 0 ≤ e) (h2 : e < 120) (h3 : lg e = l) (h4 : 0 ≤ l) (h5 : l ≤ 100000) : s_X8_edgeOf lg e = some (eg l) := by
  unfold s_X8_edgeOf eg
  by_cases c : l < 15
  · simp (disch := omega) only [cLt_t, cLt_f, cEq_t, cEq_f, cLtL_t, cLtL_f, cEqL_t, cEqL_f, cR_t, cRL_t, cZ_t, cN_t, cCp_t, rdA_t, ob_e, bd1_e, bd2_e, bd3_e, bd4_e, bd5_e, bd6_e, bd7_e, bd8_e, bd9_e, bd10_e, bd12_e, h3, if_pos c]
  · simp (disch := omega) only [cLt_t, cLt_f, cEq_t, cEq_f, cLtL_t, cLtL_f, cEqL_t, cEqL_f, cR_t, cRL_t, cZ_t, cN_t, cCp_t, rdA_t, ob_e, bd1_e, bd2_e, bd3_e, bd4_e, bd5_e, bd6_e, bd7_e, bd8_e, bd9_e, bd10_e, bd12_e, h3, if_neg c]
theorem fitsBy_e {on x y la lb n a b : Int} {lg hd tl f g : Int → Int} (o1 : 0 ≤ on) (o2 : on ≤ 1) (hx : 0 ≤ x) (hx2 : x < 120) (hy : 0 ≤ y) (hy2 : y < 120) (h1 : HT lg hd tl x f a la) (h2 : HT lg hd tl y g b lb) (ha : 0 < la) (hb : 0 < lb) (ha2 : la ≤ 100000) (hn : 0 ≤ n) (hna : n ≤ la) (hnb : n ≤ lb) (hn2 : n ≤ 15) (rf : RB f a la) (rg : RB g b lb) : ∃ r, s_X8_fitsBy on lg hd tl x y n = some r ∧ BB r (RE on f (a + la - n) g b n) := by
  have q := eg_rg (Int.le_of_lt ha)
  have z1 := edgeOf_e hx hx2 h1.1 (Int.le_of_lt ha) ha2
  have B := loopR (fun fu j => s_X8_fitsBy_17 fu on hd tl y n (15 * x + eg la - n) j) (fun j => (n - j).toNat) (fun j => 0 ≤ j ∧ j ≤ n ∧ RE on f (a + la - n) g b j) (fun r => BB r (RE on f (a + la - n) g b n)) ?_ FU 0 ⟨Int.le_refl _, hn, fun j u w => by omega⟩ (FU_lt (by omega))
  · obtain ⟨r, r1, r2⟩ := B
    have r1 : s_X8_fitsBy_17 FU on hd tl y n (15 * x + eg la - n) 0 = some r := r1
    refine ⟨r, ?_, r2⟩
    unfold s_X8_fitsBy
    simp (disch := omega) only [cLt_t, cLt_f, cEq_t, cEq_f, cLtL_t, cLtL_f, cEqL_t, cEqL_f, cR_t, cRL_t, cZ_t, cN_t, cCp_t, rdA_t, ob_e, bd1_e, bd2_e, bd3_e, bd4_e, bd5_e, bd6_e, bd7_e, bd8_e, bd9_e, bd10_e, bd12_e, z1, r1]
  · intro fu j ⟨g1, g2, g3⟩
    simp only [s_X8_fitsBy_17_s]
    by_cases c : j < n
    · have en : eg la ≥ n := by
        rcases Int.lt_or_le la 15 with w | w
        · have := q.2.2.2.1 w; omega
        · have := q.2.2.2.2 w; omega
      have t1 : tl (15 * x + eg la - n + j) = f (a + la - n + j) := by
        have := h1.2.2 (eg la - n + j) (by omega) (by omega)
        rw [show 15 * x + (eg la - n + j) = 15 * x + eg la - n + j by omega, show a + la - eg la + (eg la - n + j) = a + la - n + j by omega] at this
        exact this
      have t2 : hd (15 * y + j) = g (b + j) := h2.2.1 j g1 (by omega) (by omega)
      have u1 := rf (la - n + j) (by omega) (by omega)
      rw [show a + (la - n + j) = a + la - n + j by omega] at u1
      have u2 := rg j g1 (by omega)
      have like := X8_like_e (on := on) o1 o2 u1.1 u1.2 u2.1 u2.2
      by_cases e : fo on (f (a + la - n + j)) = fo on (g (b + j))
      · right
        rw [if_pos e] at like
        refine ⟨j + 1, ⟨by omega, by omega, fun k u w => ?_⟩, by omega, ?_⟩
        · by_cases d : k = j
          · rw [d]; exact e
          · exact g3 k u (by omega)
        · simp (disch := omega) only [cLt_t, cLt_f, cEq_t, cEq_f, cLtL_t, cLtL_f, cEqL_t, cEqL_f, cR_t, cRL_t, cZ_t, cN_t, cCp_t, rdA_t, ob_e, bd1_e, bd2_e, bd3_e, bd4_e, bd5_e, bd6_e, bd7_e, bd8_e, bd9_e, bd10_e, bd12_e, t1, t2, like]
      · left
        rw [if_neg e] at like
        refine ⟨0, ?_, Or.inr ⟨rfl, fun w => e (w j g1 c)⟩⟩
        simp (disch := omega) only [cLt_t, cLt_f, cEq_t, cEq_f, cLtL_t, cLtL_f, cEqL_t, cEqL_f, cR_t, cRL_t, cZ_t, cN_t, cCp_t, rdA_t, ob_e, bd1_e, bd2_e, bd3_e, bd4_e, bd5_e, bd6_e, bd7_e, bd8_e, bd9_e, bd10_e, bd12_e, t1, t2, like]
    · left
      refine ⟨1, by simp (disch := omega) only [cLt_t, cLt_f, cEq_t, cEq_f, cLtL_t, cLtL_f, cEqL_t, cEqL_f, cR_t, cRL_t, cZ_t, cN_t, cCp_t, rdA_t, ob_e, bd1_e, bd2_e, bd3_e, bd4_e, bd5_e, bd6_e, bd7_e, bd8_e, bd9_e, bd10_e, bd12_e], Or.inl ⟨rfl, g3.le (by omega)⟩⟩
theorem X8_ovl_48_e {on x y la lb a b : Int} {lg hd tl f g : Int → Int} (o1 : 0 ≤ on) (o2 : on ≤ 1) (hx : 0 ≤ x) (hx2 : x < 120) (hy : 0 ≤ y) (hy2 : y < 120) (h1 : HT lg hd tl x f a la) (h2 : HT lg hd tl y g b lb) (ha : 0 < la) (hb : 0 < lb) (ha2 : la ≤ 100000) (rf : RB f a la) (rg : RB g b lb) : ∃ r, s_X8_overlap_48 FU on lg hd tl x y (mo la lb) = some r ∧ OVP on f a la g b lb r := by
  have q := mo_rg (Int.le_of_lt ha) (Int.le_of_lt hb)
  have q0 : 0 ≤ mo la lb := by unfold mo iMin; split <;> split at * <;> omega
  have B := loopR (fun fu n => s_X8_overlap_48 fu on lg hd tl x y n) (fun n => n.toNat) (fun n => 0 ≤ n ∧ n ≤ mo la lb ∧ ∀ k, n < k → k ≤ mo la lb → ¬ RE on f (a + la - k) g b k) (fun r => OVP on f a la g b lb r) ?_ FU (mo la lb) ⟨q0, Int.le_refl _, fun k u w => by omega⟩ (FU_lt (by omega))
  · exact B
  · intro fu n ⟨g1, g2, g3⟩
    simp only [s_X8_overlap_48_s]
    by_cases c : 0 < n
    · obtain ⟨r, r1, r2⟩ := fitsBy_e o1 o2 hx hx2 hy hy2 h1 h2 ha hb ha2 g1 (show n ≤ la by omega) (show n ≤ lb by omega) (by omega) rf rg
      rcases r2 with ⟨e1, e2⟩ | ⟨e1, e2⟩
      · left
        exact ⟨n, by simp (disch := omega) only [cLt_t, cLt_f, cEq_t, cEq_f, cLtL_t, cLtL_f, cEqL_t, cEqL_f, cR_t, cRL_t, cZ_t, cN_t, cCp_t, rdA_t, ob_e, bd1_e, bd2_e, bd3_e, bd4_e, bd5_e, bd6_e, bd7_e, bd8_e, bd9_e, bd10_e, bd12_e, r1], Or.inr ⟨by omega, g2, e2, g3⟩⟩
      · right
        refine ⟨n + (-1), ⟨by omega, by omega, fun k u w => ?_⟩, by omega, by simp (disch := omega) only [cLt_t, cLt_f, cEq_t, cEq_f, cLtL_t, cLtL_f, cEqL_t, cEqL_f, cR_t, cRL_t, cZ_t, cN_t, cCp_t, rdA_t, ob_e, bd1_e, bd2_e, bd3_e, bd4_e, bd5_e, bd6_e, bd7_e, bd8_e, bd9_e, bd10_e, bd12_e, r1]⟩
        by_cases d : k = n
        · rw [d]; exact e2
        · exact g3 k (by omega) w
    · left
      exact ⟨n, by simp (disch := omega) only [cLt_t, cLt_f, cEq_t, cEq_f, cLtL_t, cLtL_f, cEqL_t, cEqL_f, cR_t, cRL_t, cZ_t, cN_t, cCp_t, rdA_t, ob_e, bd1_e, bd2_e, bd3_e, bd4_e, bd5_e, bd6_e, bd7_e, bd8_e, bd9_e, bd10_e, bd12_e], Or.inl ⟨by omega, fun k u w => g3 k (by omega) w⟩⟩
theorem X8_ovl_e {on x y la lb a b : Int} {lg hd tl f g : Int → Int} (o1 : 0 ≤ on) (o2 : on ≤ 1) (hx : 0 ≤ x) (hx2 : x < 120) (hy : 0 ≤ y) (hy2 : y < 120) (h1 : HT lg hd tl x f a la) (h2 : HT lg hd tl y g b lb) (ha : 0 < la) (hb : 0 < lb) (ha2 : la ≤ 100000) (hb2 : lb ≤ 100000) (rf : RB f a la) (rg : RB g b lb) : ∃ r, s_X8_overlap on lg hd tl x y = some r ∧ OVP on f a la g b lb r := by
  obtain ⟨r, r1, r2⟩ := X8_ovl_48_e o1 o2 hx hx2 hy hy2 h1 h2 ha hb ha2 rf rg
  refine ⟨r, ?_, r2⟩
  have e1 := h1.1
  have e2 := h2.1
  unfold s_X8_overlap
  by_cases c : la < lb
  · by_cases d : 15 < la - 1
    · rw [show mo la lb = 15 by unfold mo iMin; split <;> split at * <;> omega] at r1
      simp (disch := omega) only [cLt_t, cLt_f, cEq_t, cEq_f, cLtL_t, cLtL_f, cEqL_t, cEqL_f, cR_t, cRL_t, cZ_t, cN_t, cCp_t, rdA_t, ob_e, bd1_e, bd2_e, bd3_e, bd4_e, bd5_e, bd6_e, bd7_e, bd8_e, bd9_e, bd10_e, bd12_e, e1, e2, r1]
    · rw [show mo la lb = la - 1 by unfold mo iMin; split <;> split at * <;> omega] at r1
      simp (disch := omega) only [cLt_t, cLt_f, cEq_t, cEq_f, cLtL_t, cLtL_f, cEqL_t, cEqL_f, cR_t, cRL_t, cZ_t, cN_t, cCp_t, rdA_t, ob_e, bd1_e, bd2_e, bd3_e, bd4_e, bd5_e, bd6_e, bd7_e, bd8_e, bd9_e, bd10_e, bd12_e, e1, e2, r1]
  · by_cases d : 15 < lb - 1
    · rw [show mo la lb = 15 by unfold mo iMin; split <;> split at * <;> omega] at r1
      simp (disch := omega) only [cLt_t, cLt_f, cEq_t, cEq_f, cLtL_t, cLtL_f, cEqL_t, cEqL_f, cR_t, cRL_t, cZ_t, cN_t, cCp_t, rdA_t, ob_e, bd1_e, bd2_e, bd3_e, bd4_e, bd5_e, bd6_e, bd7_e, bd8_e, bd9_e, bd10_e, bd12_e, e1, e2, r1]
    · rw [show mo la lb = lb - 1 by unfold mo iMin; split <;> split at * <;> omega] at r1
      simp (disch := omega) only [cLt_t, cLt_f, cEq_t, cEq_f, cLtL_t, cLtL_f, cEqL_t, cEqL_f, cR_t, cRL_t, cZ_t, cN_t, cCp_t, rdA_t, ob_e, bd1_e, bd2_e, bd3_e, bd4_e, bd5_e, bd6_e, bd7_e, bd8_e, bd9_e, bd10_e, bd12_e, e1, e2, r1]
theorem joins18_e {x y o la ey : Int} {lg hd : Int → Int} (hx : 0 ≤ x) (hx2 : x < 120) (hy : 0 ≤ y) (hy2 : y < 120) (hxy : x ≠ y) (hl : lg x = la) (ha : 0 < la) (ha2 : la ≤ 100000) (ho : 0 ≤ o) (hoa : o < la) (hoe : o < ey) (hey : ey ≤ 15) : ∃ hd2, s_X8_joins_18 FU lg hd x y o (eg la) ey (eg la) = some hd2 ∧ (∀ e, 0 ≤ e → e ≠ x → ∀ j, 0 ≤ j → j < 15 → hd2 (15 * e + j) = hd (15 * e + j)) ∧ (∀ j, 0 ≤ j → j < la → j < 15 → hd2 (15 * x + j) = hd (15 * x + j)) ∧ (∀ j, la ≤ j → j < 15 → j - la + o < ey → hd2 (15 * x + j) = hd (15 * y + (j - la + o))) := by
  have q := eg_rg (Int.le_of_lt ha)
  by_cases c : la < 15
  · rw [q.2.2.2.1 c]
    have hN : ∃ N, N ≤ 15 ∧ la ≤ N ∧ N - la + o ≤ ey ∧ (N = 15 ∨ N - la + o = ey) := by
      by_cases d : la + ey - o ≤ 15
      · exact ⟨la + ey - o, d, by omega, by omega, Or.inr (by omega)⟩
      · exact ⟨15, by omega, by omega, by omega, Or.inl rfl⟩
    obtain ⟨N, n1, n2, n3, n4⟩ := hN
    obtain ⟨w, b1, b2⟩ := loopJ (fun fu (w : Int → Int) l => s_X8_joins_18 fu lg w x y o la ey l) (fun w => w) la N n2 hd (fun l w => (∀ e, 0 ≤ e → e ≠ x → ∀ j, 0 ≤ j → j < 15 → w (15 * e + j) = hd (15 * e + j)) ∧ (∀ j, 0 ≤ j → j < la → j < 15 → w (15 * x + j) = hd (15 * x + j)) ∧ (∀ j, la ≤ j → j < l → w (15 * x + j) = hd (15 * y + (j - la + o)))) ⟨fun e a b j u w => rfl, fun j u w z => rfl, fun j u w => by omega⟩ (by
      intro fu w l g1 g2 ⟨g3, g4, g5⟩
      refine ⟨upA w (15 * x + l) (w (15 * y + l - la + o)), ⟨fun e a b j u v => ?_, fun j u v z => ?_, fun j u v => ?_⟩, ?_⟩
      · rw [upA_n (by omega)]; exact g3 e a b j u v
      · rw [upA_n (by omega)]; exact g4 j u v z
      · by_cases d : j = l
        · rw [d, upA_s, show 15 * y + l - la + o = 15 * y + (l - la + o) by omega]
          exact g3 y hy (fun k => hxy k.symm) (l - la + o) (by omega) (by omega)
        · rw [upA_n (by omega)]; exact g5 j u (by omega)
      · simp only [s_X8_joins_18_s]
        simp (disch := omega) only [cLt_t, cLt_f, cEq_t, cEq_f, cLtL_t, cLtL_f, cEqL_t, cEqL_f, cR_t, cRL_t, cZ_t, cN_t, cCp_t, rdA_t, ob_e, bd1_e, bd2_e, bd3_e, bd4_e, bd5_e, bd6_e, bd7_e, bd8_e, bd9_e, bd10_e, bd12_e, hl]) (by
      intro fu w _
      simp only [s_X8_joins_18_s]
      rcases n4 with k | k
      · simp (disch := omega) only [cLt_t, cLt_f, cEq_t, cEq_f, cLtL_t, cLtL_f, cEqL_t, cEqL_f, cR_t, cRL_t, cZ_t, cN_t, cCp_t, rdA_t, ob_e, bd1_e, bd2_e, bd3_e, bd4_e, bd5_e, bd6_e, bd7_e, bd8_e, bd9_e, bd10_e, bd12_e]
      · by_cases k2 : N < 15
        · simp (disch := omega) only [cLt_t, cLt_f, cEq_t, cEq_f, cLtL_t, cLtL_f, cEqL_t, cEqL_f, cR_t, cRL_t, cZ_t, cN_t, cCp_t, rdA_t, ob_e, bd1_e, bd2_e, bd3_e, bd4_e, bd5_e, bd6_e, bd7_e, bd8_e, bd9_e, bd10_e, bd12_e]
        · simp (disch := omega) only [cLt_t, cLt_f, cEq_t, cEq_f, cLtL_t, cLtL_f, cEqL_t, cEqL_f, cR_t, cRL_t, cZ_t, cN_t, cCp_t, rdA_t, ob_e, bd1_e, bd2_e, bd3_e, bd4_e, bd5_e, bd6_e, bd7_e, bd8_e, bd9_e, bd10_e, bd12_e]) FU (FU_lt (by omega))
    have b2 : s_X8_joins_18 FU lg hd x y o la ey la = some w := b2
    exact ⟨w, b2, b1.1, b1.2.1, fun j u v z => b1.2.2 j u (by omega)⟩
  · have e := q.2.2.2.2 (by omega)
    rw [e]
    refine ⟨hd, ?_, fun e a b j u w => rfl, fun j u w z => rfl, fun j u w z => by omega⟩
    obtain ⟨k, hk⟩ : ∃ k, FU = k + 1 := ⟨FU - 1, by have := FU_lt (n := 0) (by omega); omega⟩
    rw [hk]
    simp only [s_X8_joins_18_s]
    simp (disch := omega) only [cLt_t, cLt_f, cEq_t, cEq_f, cLtL_t, cLtL_f, cEqL_t, cEqL_f, cR_t, cRL_t, cZ_t, cN_t, cCp_t, rdA_t, ob_e, bd1_e, bd2_e, bd3_e, bd4_e, bd5_e, bd6_e, bd7_e, bd8_e, bd9_e, bd10_e, bd12_e]
theorem joins3_e {x y o ex ey cnt l7 ex2 : Int} {tl ed : Int → Int} (hx : 0 ≤ x) (hx2 : x < 120) (hy : 0 ≤ y) (hy2 : y < 120) (h1 : 0 ≤ ex) (h2 : ex ≤ 15) (h3 : 0 ≤ l7) (h4 : l7 ≤ ey) (h5 : ey ≤ 15) (h6 : 0 ≤ ex2) (h7 : ex2 ≤ 15) (h8 : ex2 ≤ ex + l7) : ∃ e1 e2 t2, s_X8_joins_112 FU tl ed x y o ex ey cnt l7 0 = some e1 ∧ s_X8_joins_147 FU tl e1 x y o ex ey cnt l7 0 = some e2 ∧ s_X8_joins_209 FU tl e2 x y o ex l7 ex2 0 = some t2 ∧ (∀ e, 0 ≤ e → e ≠ x → ∀ j, 0 ≤ j → j < 15 → t2 (15 * e + j) = tl (15 * e + j)) ∧ (∀ i, 0 ≤ i → i < ex2 → t2 (15 * x + i) = if ex + l7 - ex2 + i < ex then tl (15 * x + (ex + l7 - ex2 + i)) else tl (15 * y + (ey - ex2 + i))) := by
  obtain ⟨e1, a1, a2⟩ := loopJ (fun fu (w : Int → Int) l => s_X8_joins_112 fu tl w x y o ex ey cnt l7 l) (fun w => w) 0 ex h1 ed (fun l w => ∀ j, 0 ≤ j → j < l → w j = tl (15 * x + j)) (fun j u w => by omega) (by
    intro fu w l g1 g2 g3
    refine ⟨upA w l (tl (15 * x + l)), fun j u v => ?_, ?_⟩
    · by_cases d : j = l
      · rw [d, upA_s]
      · rw [upA_n d]; exact g3 j u (by omega)
    · simp only [s_X8_joins_112_s]
      simp (disch := omega) only [cLt_t, cLt_f, cEq_t, cEq_f, cLtL_t, cLtL_f, cEqL_t, cEqL_f, cR_t, cRL_t, cZ_t, cN_t, cCp_t, rdA_t, ob_e, bd1_e, bd2_e, bd3_e, bd4_e, bd5_e, bd6_e, bd7_e, bd8_e, bd9_e, bd10_e, bd12_e]) (by
    intro fu w _
    simp only [s_X8_joins_112_s]
    simp (disch := omega) only [cLt_t, cLt_f, cEq_t, cEq_f, cLtL_t, cLtL_f, cEqL_t, cEqL_f, cR_t, cRL_t, cZ_t, cN_t, cCp_t, rdA_t, ob_e, bd1_e, bd2_e, bd3_e, bd4_e, bd5_e, bd6_e, bd7_e, bd8_e, bd9_e, bd10_e, bd12_e]) FU (FU_lt (by omega))
  obtain ⟨e2, b1, b2⟩ := loopJ (fun fu (w : Int → Int) l => s_X8_joins_147 fu tl w x y o ex ey cnt l7 l) (fun w => w) 0 l7 h3 e1 (fun l w => (∀ j, 0 ≤ j → j < ex → w j = tl (15 * x + j)) ∧ ∀ j, 0 ≤ j → j < l → w (ex + j) = tl (15 * y + ey - l7 + j)) ⟨a1, fun j u w => by omega⟩ (by
    intro fu w l g1 g2 ⟨g3, g4⟩
    refine ⟨upA w (ex + l) (tl (15 * y + ey - l7 + l)), ⟨fun j u v => ?_, fun j u v => ?_⟩, ?_⟩
    · rw [upA_n (by omega)]; exact g3 j u v
    · by_cases d : j = l
      · rw [d, upA_s]
      · rw [upA_n (by omega)]; exact g4 j u (by omega)
    · simp only [s_X8_joins_147_s]
      simp (disch := omega) only [cLt_t, cLt_f, cEq_t, cEq_f, cLtL_t, cLtL_f, cEqL_t, cEqL_f, cR_t, cRL_t, cZ_t, cN_t, cCp_t, rdA_t, ob_e, bd1_e, bd2_e, bd3_e, bd4_e, bd5_e, bd6_e, bd7_e, bd8_e, bd9_e, bd10_e, bd12_e]) (by
    intro fu w _
    simp only [s_X8_joins_147_s]
    simp (disch := omega) only [cLt_t, cLt_f, cEq_t, cEq_f, cLtL_t, cLtL_f, cEqL_t, cEqL_f, cR_t, cRL_t, cZ_t, cN_t, cCp_t, rdA_t, ob_e, bd1_e, bd2_e, bd3_e, bd4_e, bd5_e, bd6_e, bd7_e, bd8_e, bd9_e, bd10_e, bd12_e]) FU (FU_lt (by omega))
  obtain ⟨t2, c1, c2⟩ := loopJ (fun fu (w : Int → Int) l => s_X8_joins_209 fu w e2 x y o ex l7 ex2 l) (fun w => w) 0 ex2 h6 tl (fun l w => (∀ e, 0 ≤ e → e ≠ x → ∀ j, 0 ≤ j → j < 15 → w (15 * e + j) = tl (15 * e + j)) ∧ ∀ i, 0 ≤ i → i < l → w (15 * x + i) = e2 (ex + l7 - ex2 + i)) ⟨fun e a b j u w => rfl, fun j u w => by omega⟩ (by
    intro fu w l g1 g2 ⟨g3, g4⟩
    refine ⟨upA w (15 * x + l) (e2 (ex + l7 - ex2 + l)), ⟨fun e a b j u v => ?_, fun j u v => ?_⟩, ?_⟩
    · rw [upA_n (by omega)]; exact g3 e a b j u v
    · by_cases d : j = l
      · rw [d, upA_s]
      · rw [upA_n (by omega)]; exact g4 j u (by omega)
    · simp only [s_X8_joins_209_s]
      simp (disch := omega) only [cLt_t, cLt_f, cEq_t, cEq_f, cLtL_t, cLtL_f, cEqL_t, cEqL_f, cR_t, cRL_t, cZ_t, cN_t, cCp_t, rdA_t, ob_e, bd1_e, bd2_e, bd3_e, bd4_e, bd5_e, bd6_e, bd7_e, bd8_e, bd9_e, bd10_e, bd12_e]) (by
    intro fu w _
    simp only [s_X8_joins_209_s]
    simp (disch := omega) only [cLt_t, cLt_f, cEq_t, cEq_f, cLtL_t, cLtL_f, cEqL_t, cEqL_f, cR_t, cRL_t, cZ_t, cN_t, cCp_t, rdA_t, ob_e, bd1_e, bd2_e, bd3_e, bd4_e, bd5_e, bd6_e, bd7_e, bd8_e, bd9_e, bd10_e, bd12_e]) FU (FU_lt (by omega))
  refine ⟨e1, e2, t2, a2, b2, c2, c1.1, fun i u w => ?_⟩
  rw [c1.2 i u w]
  by_cases d : ex + l7 - ex2 + i < ex
  · rw [if_pos d]; exact b1.1 _ (by omega) d
  · rw [if_neg d]
    have := b1.2 (l7 - ex2 + i) (by omega) (by omega)
    rw [show ex + l7 - ex2 + i = ex + (l7 - ex2 + i) by omega, this]
    congr 1; omega
theorem X8_joins_e {x y o la lb a b : Int} {lg hd tl nx sk ls ed f g : Int → Int} (hx : 0 ≤ x) (hx2 : x < 120) (hy : 0 ≤ y) (hy2 : y < 120) (hxy : x ≠ y) (h1 : HT lg hd tl x f a la) (h2 : HT lg hd tl y g b lb) (ha : 0 < la) (hb : 0 < lb) (ha2 : la ≤ 1000) (hb2 : lb ≤ 1000) (ho : 0 ≤ o) (ho2 : o ≤ 15) (hoa : o < la) (hob : o < lb) (hl1 : 0 ≤ ls x) (hl2 : ls x < 120) :
    ∃ hd2 tl2 ed2, s_X8_joins lg hd tl nx sk ls ed x y o = some (upA lg x (la + (lb - o)), hd2, tl2, upA nx (ls x) y, upA sk y o, upA ls x (ls y), ed2) ∧ (∀ e, 0 ≤ e → e ≠ x → ∀ j, 0 ≤ j → j < 15 → hd2 (15 * e + j) = hd (15 * e + j) ∧ tl2 (15 * e + j) = tl (15 * e + j)) ∧
      ∀ (h : Int → Int) (c : Int), (∀ j, 0 ≤ j → j < la → h (c + j) = f (a + j)) → (∀ j, 0 ≤ j → j < lb - o → h (c + la + j) = g (b + o + j)) → HT (upA lg x (la + (lb - o))) hd2 tl2 x h c (la + (lb - o)) := by
  have qa := eg_rg (Int.le_of_lt ha)
  have qb := eg_rg (Int.le_of_lt hb)
  have qc := eg_rg (show 0 ≤ la + (lb - o) by omega)
  have z1 := edgeOf_e hx hx2 h1.1 (Int.le_of_lt ha) (by omega)
  have z2 := edgeOf_e hy hy2 h2.1 (Int.le_of_lt hb) (by omega)
  have z3 := edgeOf_e (lg := upA lg x (la + (lb - o))) hx hx2 upA_s (show 0 ≤ la + (lb - o) by omega) (by omega)
  have e1 := h1.1
  have e2 := h2.1
  have heb : o < eg lb ∨ (o = 15 ∧ eg lb = 15) := by
    rcases Int.lt_or_le lb 15 with w | w
    · have := qb.2.2.2.1 w; omega
    · have := qb.2.2.2.2 w; omega
  have ha15 : 15 ≤ la → eg la = 15 := qa.2.2.2.2
  have A : ∃ hd2, s_X8_joins_18 FU lg hd x y o (eg la) (eg lb) (eg la) = some hd2 ∧ (∀ e, 0 ≤ e → e ≠ x → ∀ j, 0 ≤ j → j < 15 → hd2 (15 * e + j) = hd (15 * e + j)) ∧ (∀ j, 0 ≤ j → j < la → j < 15 → hd2 (15 * x + j) = hd (15 * x + j)) ∧ (∀ j, la ≤ j → j < 15 → j - la + o < eg lb → hd2 (15 * x + j) = hd (15 * y + (j - la + o))) := by
    rcases heb with w | w
    · exact joins18_e hx hx2 hy hy2 hxy e1 ha (by omega) ho hoa w (by omega)
    · have e := ha15 (by omega)
      refine ⟨hd, ?_, fun e a b j u w => rfl, fun j u w z => rfl, fun j u w z => by omega⟩
      obtain ⟨k, hk⟩ : ∃ k, FU = k + 1 := ⟨FU - 1, by have := FU_lt (n := 0) (by omega); omega⟩
      rw [hk, e]
      simp only [s_X8_joins_18_s]
      simp (disch := omega) only [cLt_t, cLt_f, cEq_t, cEq_f, cLtL_t, cLtL_f, cEqL_t, cEqL_f, cR_t, cRL_t, cZ_t, cN_t, cCp_t, rdA_t, ob_e, bd1_e, bd2_e, bd3_e, bd4_e, bd5_e, bd6_e, bd7_e, bd8_e, bd9_e, bd10_e, bd12_e]
  obtain ⟨hd2, p1, p2, p3, p4⟩ := A
  -- the kept end of y
  have fin : ∀ l7 : Int, 0 ≤ l7 → l7 ≤ eg lb → l7 ≤ lb - o → (l7 = lb - o ∨ l7 = 15) → ∀ t2 : Int → Int, (∀ e, 0 ≤ e → e ≠ x → ∀ j, 0 ≤ j → j < 15 → t2 (15 * e + j) = tl (15 * e + j)) → (∀ i, 0 ≤ i → i < eg (la + (lb - o)) → t2 (15 * x + i) = if eg la + l7 - eg (la + (lb - o)) + i < eg la then tl (15 * x + (eg la + l7 - eg (la + (lb - o)) + i)) else tl (15 * y + (eg lb - eg (la + (lb - o)) + i))) → ∀ (h : Int → Int) (c : Int), (∀ j, 0 ≤ j → j < la → h (c + j) = f (a + j)) → (∀ j, 0 ≤ j → j < lb - o → h (c + la + j) = g (b + o + j)) → HT (upA lg x (la + (lb - o))) hd2 t2 x h c (la + (lb - o)) := by
    intro l7 k1 k2 k3 k4 t2 t3 t4 h c hc1 hc2
    have qe : eg (la + (lb - o)) ≤ eg la + l7 := by
      rcases Int.lt_or_le la 15 with w | w
      · have := qa.2.2.2.1 w; omega
      · have := ha15 w; omega
    refine ⟨upA_s, fun j u v w => ?_, fun j u v => ?_⟩
    · by_cases d : j < la
      · rw [p3 j u d w, h1.2.1 j u d w, hc1 j u d]
      · have hj : j - la + o < eg lb := by
          rcases Int.lt_or_le lb 15 with z | z
          · have := qb.2.2.2.1 z; omega
          · have := qb.2.2.2.2 z; omega
        rw [p4 j (by omega) w hj, h2.2.1 (j - la + o) (by omega) (by omega) (by omega)]
        have := hc2 (j - la) (by omega) (by omega)
        rw [show c + la + (j - la) = c + j by omega] at this
        rw [this]; congr 1; omega
    · rw [t4 j u v]
      by_cases d : eg la + l7 - eg (la + (lb - o)) + j < eg la
      · rw [if_pos d]
        have hl : l7 = lb - o := by
          rcases k4 with k | k
          · exact k
          · omega
        rw [h1.2.2 _ (by omega) d]
        have := hc1 (la - eg la + (eg la + l7 - eg (la + (lb - o)) + j)) (by omega) (by omega)
        rw [show c + (la + (lb - o)) - eg (la + (lb - o)) + j = c + (la - eg la + (eg la + l7 - eg (la + (lb - o)) + j)) by omega, this]
        congr 1; omega
      · rw [if_neg d]
        have := h2.2.2 (eg lb - eg (la + (lb - o)) + j) (by omega) (by omega)
        rw [this]
        have := hc2 (lb - o - eg (la + (lb - o)) + j) (by omega) (by omega)
        rw [show c + la + (lb - o - eg (la + (lb - o)) + j) = c + (la + (lb - o)) - eg (la + (lb - o)) + j by omega] at this
        rw [this]
        congr 1; omega
  by_cases c : lb - o < eg lb
  · obtain ⟨d1, d2, t2, r1, r2, r3, r4, r5⟩ := joins3_e (x := x) (y := y) (o := o) (ex := eg la) (ey := eg lb) (cnt := lb - o) (l7 := lb - o) (ex2 := eg (la + (lb - o))) (tl := tl) (ed := ed) hx hx2 hy hy2 qa.1 qa.2.1 (by omega) (by omega) qb.2.1 qc.1 qc.2.1 (by
      rcases Int.lt_or_le la 15 with w | w
      · have := qa.2.2.2.1 w; omega
      · have := ha15 w; omega)
    refine ⟨hd2, t2, d2, ?_, fun e u v j w z => ⟨p2 e u v j w z, r4 e u v j w z⟩, fin (lb - o) (by omega) (by omega) (by omega) (Or.inl rfl) t2 r4 r5⟩
    unfold s_X8_joins
    simp (disch := omega) only [cLt_t, cLt_f, cEq_t, cEq_f, cLtL_t, cLtL_f, cEqL_t, cEqL_f, cR_t, cRL_t, cZ_t, cN_t, cCp_t, rdA_t, ob_e, bd1_e, bd2_e, bd3_e, bd4_e, bd5_e, bd6_e, bd7_e, bd8_e, bd9_e, bd10_e, bd12_e, z1, z2, p1, e1, e2, r1, r2, z3, r3]
  · have l15 : eg lb = 15 ∨ eg lb = lb - o := by
      rcases Int.lt_or_le lb 15 with z | z
      · have := qb.2.2.2.1 z; omega
      · have := qb.2.2.2.2 z; omega
    obtain ⟨d1, d2, t2, r1, r2, r3, r4, r5⟩ := joins3_e (x := x) (y := y) (o := o) (ex := eg la) (ey := eg lb) (cnt := lb - o) (l7 := eg lb) (ex2 := eg (la + (lb - o))) (tl := tl) (ed := ed) hx hx2 hy hy2 qa.1 qa.2.1 (by omega) (by omega) qb.2.1 qc.1 qc.2.1 (by
      rcases Int.lt_or_le la 15 with w | w
      · have := qa.2.2.2.1 w; omega
      · have := ha15 w; omega)
    refine ⟨hd2, t2, d2, ?_, fun e u v j w z => ⟨p2 e u v j w z, r4 e u v j w z⟩, fin (eg lb) (by omega) (by omega) (by omega) (by omega) t2 r4 r5⟩
    unfold s_X8_joins
    simp (disch := omega) only [cLt_t, cLt_f, cEq_t, cEq_f, cLtL_t, cLtL_f, cEqL_t, cEqL_f, cR_t, cRL_t, cZ_t, cN_t, cCp_t, rdA_t, ob_e, bd1_e, bd2_e, bd3_e, bd4_e, bd5_e, bd6_e, bd7_e, bd8_e, bd9_e, bd10_e, bd12_e, z1, z2, p1, e1, e2, r1, r2, z3, r3]
