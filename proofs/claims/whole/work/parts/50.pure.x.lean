/-! ===== the class's best cover ===== -/
theorem cnd_rg {gv on sl p k : Int} {len bytes wt live str words c w n : Int → Int} (hK : KW gv len bytes wt live) (hT : TBI on gv len bytes live str sl words) (hs2 : sl ≤ 600) (hp : 0 ≤ p) (hps : p < sl) (hb : ∀ q, p < q → q ≤ sl → BD sl c w n q) (h : MS gv len live words p k) : 0 ≤ cnd len wt c w n p k ∧ cnd len wt c w n p k ≤ 1000000000000 := by
  have hr := h.rg hK hT hp (by omega)
  obtain ⟨z1, z2, z3, z4, z5, z6, z7⟩ := hb (p + len k) (by omega) (by omega)
  unfold pkf at z7
  unfold cnd pkf
  omega
theorem pkf_rg {sl q : Int} {c w n : Int → Int} (h : BD sl c w n q) (hs2 : sl ≤ 600) (hq : 0 ≤ q) : 0 ≤ pkf c w n q ∧ pkf c w n q ≤ 1000000000000 := by
  obtain ⟨z1, z2, z3, z4, z5, z6, z7⟩ := h
  unfold pkf at *
  omega
theorem X7_worthFrom_e {gv on sl p l : Int} {len bytes wt live str words c w n bf : Int → Int} (hK : KW gv len bytes wt live) (hT : TBI on gv len bytes live str sl words) (hs2 : sl ≤ 600) (hp : 0 ≤ p) (hps : p < sl) (hl1 : 1 ≤ l) (hl2 : l ≤ 16) (hB : ∀ q, p < q → q ≤ sl → bf q = pkf c w n q) : s_X7_worthFrom gv wt sl words bf p l = some (if ha words p l = 0 then -1 else cnd len wt c w n p (mt words p l)) := by
  obtain ⟨x, y1, y2, y3, y4⟩ := X5_at_h (words := words) (p := p) (l := l) (by omega) (by omega) (by omega) (by omega)
  unfold s_X7_worthFrom
  rcases y4 with ⟨q1, q2⟩ | ⟨q1, q2, q3⟩
  · simp (disch := omega) only [cLt_t, cLt_f, cEq_t, cEq_f, cLtL_t, cLtL_f, cEqL_t, cEqL_f, cR_t, cRL_t, cZ_t, cN_t, cCp_t, rdA_t, ob_e, bd1_e, bd2_e, bd3_e, bd4_e, bd5_e, bd6_e, bd7_e, bd8_e, bd9_e, bd10_e, bd12_e, y1, if_pos q2]
  · have hm := MS.of hT q2
    have hr := hm.1.rg hK hT hp (by omega)
    rw [← q3] at hm hr
    have he := hB (p + l) (by omega) (by omega)
    have hw := X3_weightOf_e (gv := gv) (k := x) (wt := wt) (by omega) (by omega) hK.2.1
    rw [if_neg (by omega), ← q3]
    simp (disch := omega) only [cLt_t, cLt_f, cEq_t, cEq_f, cLtL_t, cLtL_f, cEqL_t, cEqL_f, cR_t, cRL_t, cZ_t, cN_t, cCp_t, rdA_t, ob_e, bd1_e, bd2_e, bd3_e, bd4_e, bd5_e, bd6_e, bd7_e, bd8_e, bd9_e, bd10_e, bd12_e, y1, hw, he]
    congr 1
    unfold cnd
    rw [hm.2]
    omega
theorem measureCovers_e {gv on sl : Int} {len bytes wt live str words c w n t bf : Int → Int} (hK : KW gv len bytes wt live) (hT : TBI on gv len bytes live str sl words) (hs1 : 0 ≤ sl) (hs2 : sl ≤ 600) (hC : CVR gv sl len wt live words c w n t 0) : ∃ bf2, s_X7_measureCovers gv wt sl words bf = some bf2 ∧ ∀ q, 0 ≤ q → q ≤ sl → bf2 q = pkf c w n q := by
  obtain ⟨f1, f2, f3, f4, f5⟩ := hC
  obtain ⟨s, b1, b2⟩ := loopD (fun fu (s : Int → Int) p => s_X7_measureCovers_23 fu gv wt sl words s p) (fun s => s) (sl - 1) 0 (by omega) (upA bf sl 0) (fun p s => ∀ q, p ≤ q → q ≤ sl → s q = pkf c w n q) (fun q a b => by
      rw [show q = sl by omega, upA_s]
      unfold pkf; rw [f1, f2, f3]; omega) (by
    intro fu bf p g1 g2 g3
    have g3 : ∀ q, p + 1 ≤ q → q ≤ sl → bf q = pkf c w n q := g3
    have hb : ∀ q, p < q → q ≤ sl → BD sl c w n q := fun q a b => f4 q (by omega) b
    have x1 := X5_longestFrom_e (words := words) (p := p) g1 (by omega)
    have x2 := lf_e words p
    have x3 := g3 (p + 1) (by omega) (by omega)
    have x4 := pkf_rg (hb (p + 1) (by omega) (by omega)) hs2 (by omega)
    obtain ⟨d, d1, d2⟩ := loopJ (fun fu (s : Int → Int) l => s_X7_measureCovers_52 fu gv wt sl words s p (lf words p) l) (fun s => s) 1 (lf words p + 1) (by omega) (upA bf p (bf (p + 1))) (fun l s => (∀ q, q ≠ p → s q = bf q) ∧ pkf c w n (p + 1) ≤ s p ∧ s p ≤ 1000000000000 ∧ (∀ m, m < l → ha words p m = 1 → cnd len wt c w n p (mt words p m) ≤ s p) ∧ (s p = pkf c w n (p + 1) ∨ ∃ m, ha words p m = 1 ∧ s p = cnd len wt c w n p (mt words p m))) ⟨fun q a => upA_n a, by rw [upA_s, x3]; omega, by rw [upA_s, x3]; omega, fun m a b => by have := ha_n b; omega, Or.inl (by rw [upA_s, x3])⟩ (by
      intro fu s l w1 w2 ⟨w3, w4, w5, w6, w7⟩
      have z1 := X7_worthFrom_e (p := p) (l := l) (c := c) (w := w) (n := n) (bf := s) hK hT hs2 g1 (by omega) w1 (by omega) (fun q a b => by rw [w3 q (by omega)]; exact g3 q (by omega) b)
      have z2 := ha_rg words p l
      by_cases k : ha words p l = 0
      · rw [if_pos k] at z1
        refine ⟨upA s p (lMax (s p) (-1)), ⟨fun q a => by rw [upA_n a]; exact w3 q a, ?_⟩, ?_⟩
        · rw [upA_s, show lMax (s p) (-1) = s p by unfold lMax; split <;> omega]
          refine ⟨w4, w5, fun m a b => ?_, w7⟩
          by_cases e : m = l
          · rw [e] at b; omega
          · exact w6 m (by omega) b
        · simp only [s_X7_measureCovers_52_s]
          simp (disch := omega) only [cLt_t, cLt_f, cEq_t, cEq_f, cLtL_t, cLtL_f, cEqL_t, cEqL_f, cR_t, cRL_t, cZ_t, cN_t, cCp_t, rdA_t, ob_e, bd1_e, bd2_e, bd3_e, bd4_e, bd5_e, bd6_e, bd7_e, bd8_e, bd9_e, bd10_e, bd12_e, z1]
      · rw [if_neg k] at z1
        have hm := MS.of hT (show ha words p l = 1 by omega)
        have hr := cnd_rg hK hT hs2 g1 (show p < sl by omega) hb hm.1
        refine ⟨upA s p (lMax (s p) (cnd len wt c w n p (mt words p l))), ⟨fun q a => by rw [upA_n a]; exact w3 q a, ?_⟩, ?_⟩
        · rw [upA_s]
          have e1 : s p ≤ lMax (s p) (cnd len wt c w n p (mt words p l)) ∧ cnd len wt c w n p (mt words p l) ≤ lMax (s p) (cnd len wt c w n p (mt words p l)) := by unfold lMax; split <;> omega
          have e2 : lMax (s p) (cnd len wt c w n p (mt words p l)) = s p ∨ lMax (s p) (cnd len wt c w n p (mt words p l)) = cnd len wt c w n p (mt words p l) := by unfold lMax; split <;> omega
          refine ⟨by omega, by omega, fun m a b => ?_, ?_⟩
          · by_cases e : m = l
            · rw [e]; omega
            · have := w6 m (by omega) b; omega
          · rcases e2 with e | e
            · rw [e]; exact w7
            · exact Or.inr ⟨l, by omega, e⟩
        · simp only [s_X7_measureCovers_52_s]
          simp (disch := omega) only [cLt_t, cLt_f, cEq_t, cEq_f, cLtL_t, cLtL_f, cEqL_t, cEqL_f, cR_t, cRL_t, cZ_t, cN_t, cCp_t, rdA_t, ob_e, bd1_e, bd2_e, bd3_e, bd4_e, bd5_e, bd6_e, bd7_e, bd8_e, bd9_e, bd10_e, bd12_e, z1]) (by
      intro fu s _
      simp only [s_X7_measureCovers_52_s]
      simp (disch := omega) only [cLt_t, cLt_f, cEq_t, cEq_f, cLtL_t, cLtL_f, cEqL_t, cEqL_f, cR_t, cRL_t, cZ_t, cN_t, cCp_t, rdA_t, ob_e, bd1_e, bd2_e, bd3_e, bd4_e, bd5_e, bd6_e, bd7_e, bd8_e, bd9_e, bd10_e, bd12_e]) FU (FU_lt (by omega))
    have d2 : s_X7_measureCovers_52 FU gv wt sl words (upA bf p (bf (p + 1))) p (lf words p) 1 = some d := d2
    obtain ⟨h1, h2, h3, h4, h5⟩ := d1
    have hL := f5 p g1 (by omega)
    have hv : d p = pkf c w n p := by
      have up : d p ≤ pkf c w n p := by
        rcases h5 with e | ⟨m, e1, e2⟩
        · rw [e]; exact hL.1
        · rw [e2]
          have hm := MS.of hT e1
          exact hL.2.1 _ hm.1.1.2.1 hm.1
      have dn : pkf c w n p ≤ d p := by
        rcases hL.2.2 with ⟨a1, a2, a3, a4, a5⟩ | ⟨a1, a2, a3, a4, a5, a6, a7⟩
        · unfold pkf at *
          rw [a2, a3, a4]; exact h2
        · have hr := a3.rg hK hT g1 (by omega)
          have e := h4 (len (t p)) (by
            rcases Int.lt_or_le (lf words p) (len (t p)) with z | z
            · have := x2.2.2.1 _ z; omega
            · omega) hr.2.2.2.2.2.2.2.2
          rw [a3.2] at e
          have e2 : cnd len wt c w n p (t p) = pkf c w n p := by unfold cnd pkf; rw [a4, a5, a6]; omega
          omega
      omega
    refine ⟨d, fun q a b => ?_, ?_⟩
    · by_cases e : q = p
      · rw [e]; exact hv
      · rw [h1 q e]; exact g3 q (by omega) b
    · simp only [s_X7_measureCovers_23_s]
      simp (disch := omega) only [cLt_t, cLt_f, cEq_t, cEq_f, cLtL_t, cLtL_f, cEqL_t, cEqL_f, cR_t, cRL_t, cZ_t, cN_t, cCp_t, rdA_t, ob_e, bd1_e, bd2_e, bd3_e, bd4_e, bd5_e, bd6_e, bd7_e, bd8_e, bd9_e, bd10_e, bd12_e, x1, d2]) (by
    intro fu s _
    simp only [s_X7_measureCovers_23_s]
    simp (disch := omega) only [cLt_t, cLt_f, cEq_t, cEq_f, cLtL_t, cLtL_f, cEqL_t, cEqL_f, cR_t, cRL_t, cZ_t, cN_t, cCp_t, rdA_t, ob_e, bd1_e, bd2_e, bd3_e, bd4_e, bd5_e, bd6_e, bd7_e, bd8_e, bd9_e, bd10_e, bd12_e]) FU (FU_lt (by omega))
  have b2 : s_X7_measureCovers_23 FU gv wt sl words (upA bf sl 0) (sl - 1) = some s := b2
  refine ⟨s, ?_, b1⟩
  unfold s_X7_measureCovers
  simp (disch := omega) only [cLt_t, cLt_f, cEq_t, cEq_f, cLtL_t, cLtL_f, cEqL_t, cEqL_f, cR_t, cRL_t, cZ_t, cN_t, cCp_t, rdA_t, ob_e, bd1_e, bd2_e, bd3_e, bd4_e, bd5_e, bd6_e, bd7_e, bd8_e, bd9_e, bd10_e, bd12_e, b2]
theorem lowestBestFrom_e {gv on sl p : Int} {len bytes wt live str words c w n t bf : Int → Int} (hK : KW gv len bytes wt live) (hT : TBI on gv len bytes live str sl words) (hs1 : 0 ≤ sl) (hs2 : sl ≤ 600) (hC : CVR gv sl len wt live words c w n t 0) (hB : ∀ q, 0 ≤ q → q ≤ sl → bf q = pkf c w n q) (g1 : 0 ≤ p) (g2 : p < sl) : s_X7_lowestBestFrom gv wt sl words bf p = some (t p) := by
  obtain ⟨f1, f2, f3, f4, f5⟩ := hC
  have hb : ∀ q, p < q → q ≤ sl → BD sl c w n q := fun q a b => f4 q (by omega) b
  have x1 := X5_longestFrom_e (words := words) (p := p) g1 (by omega)
  have x2 := lf_e words p
  have x3 := hB p g1 (by omega)
  have x4 := pkf_rg (f4 p g1 (by omega)) hs2 g1
  have hL := f5 p g1 g2
  obtain ⟨d, d1, d2⟩ := loopJ (fun fu (s : Int) l => s_X7_lowestBestFrom_14 fu gv wt sl words bf p s (lf words p) l) (fun s => s) 1 (lf words p + 1) (by omega) (-1) (fun l s => (s = -1 ∧ ∀ m, m < l → ha words p m = 1 → cnd len wt c w n p (mt words p m) ≠ pkf c w n p) ∨ (0 ≤ s ∧ s < 120 ∧ MS gv len live words p s ∧ cnd len wt c w n p s = pkf c w n p ∧ ∀ m, m < l → ha words p m = 1 → cnd len wt c w n p (mt words p m) = pkf c w n p → s ≤ mt words p m)) (Or.inl ⟨rfl, fun m a b => by have := ha_n b; omega⟩) (by
    intro fu s l w1 w2 w3
    have z1 := X7_worthFrom_e (p := p) (l := l) (c := c) (w := w) (n := n) (bf := bf) hK hT hs2 g1 g2 w1 (by omega) (fun q a b => hB q (by omega) b)
    have z2 := ha_rg words p l
    by_cases k : ha words p l = 0
    · rw [if_pos k] at z1
      refine ⟨s, ?_, ?_⟩
      · rcases w3 with ⟨e1, e2⟩ | ⟨e1, e2, e3, e4, e5⟩
        · refine Or.inl ⟨e1, fun m a b => ?_⟩
          by_cases e : m = l
          · rw [e] at b; omega
          · exact e2 m (by omega) b
        · refine Or.inr ⟨e1, e2, e3, e4, fun m a b => ?_⟩
          by_cases e : m = l
          · rw [e] at b; omega
          · exact e5 m (by omega) b
      · simp only [s_X7_lowestBestFrom_14_s]
        simp (disch := omega) only [cLt_t, cLt_f, cEq_t, cEq_f, cLtL_t, cLtL_f, cEqL_t, cEqL_f, cR_t, cRL_t, cZ_t, cN_t, cCp_t, rdA_t, ob_e, bd1_e, bd2_e, bd3_e, bd4_e, bd5_e, bd6_e, bd7_e, bd8_e, bd9_e, bd10_e, bd12_e, z1, x3]
    · rw [if_neg k] at z1
      have k1 : ha words p l = 1 := by omega
      have hm := MS.of hT k1
      have hr := cnd_rg hK hT hs2 g1 g2 hb hm.1
      have hr2 := hm.1.rg hK hT g1 (by omega)
      have hg := hK.2.1
      have y5 : s_X5_at words p l = some (mt words p l) := by
        rw [X5_at_e (by omega) (by omega) (by omega) (by omega), if_pos (by omega)]
      by_cases k2 : cnd len wt c w n p (mt words p l) = pkf c w n p
      · rcases w3 with ⟨e1, e2⟩ | ⟨e1, e2, e3, e4, e5⟩
        · refine ⟨mt words p l, Or.inr ⟨by omega, by omega, hm.1, k2, fun m a b d => ?_⟩, ?_⟩
          · by_cases e : m = l
            · rw [e]; omega
            · exact absurd d (e2 m (by omega) b)
          · simp only [s_X7_lowestBestFrom_14_s]
            simp (disch := omega) only [cLt_t, cLt_f, cEq_t, cEq_f, cLtL_t, cLtL_f, cEqL_t, cEqL_f, cR_t, cRL_t, cZ_t, cN_t, cCp_t, rdA_t, ob_e, bd1_e, bd2_e, bd3_e, bd4_e, bd5_e, bd6_e, bd7_e, bd8_e, bd9_e, bd10_e, bd12_e, z1, x3, y5]
        · refine ⟨iMin s (mt words p l), Or.inr ?_, ?_⟩
          · by_cases q : s ≤ mt words p l
            · rw [show iMin s (mt words p l) = s by unfold iMin; split <;> omega]
              refine ⟨e1, e2, e3, e4, fun m a b d => ?_⟩
              by_cases e : m = l
              · rw [e]; exact q
              · exact e5 m (by omega) b d
            · rw [show iMin s (mt words p l) = mt words p l by unfold iMin; split <;> omega]
              refine ⟨by omega, by omega, hm.1, k2, fun m a b d => ?_⟩
              by_cases e : m = l
              · rw [e]; omega
              · have := e5 m (by omega) b d; omega
          · simp only [s_X7_lowestBestFrom_14_s]
            simp (disch := omega) only [cLt_t, cLt_f, cEq_t, cEq_f, cLtL_t, cLtL_f, cEqL_t, cEqL_f, cR_t, cRL_t, cZ_t, cN_t, cCp_t, rdA_t, ob_e, bd1_e, bd2_e, bd3_e, bd4_e, bd5_e, bd6_e, bd7_e, bd8_e, bd9_e, bd10_e, bd12_e, z1, x3, y5]
      · refine ⟨s, ?_, ?_⟩
        · rcases w3 with ⟨e1, e2⟩ | ⟨e1, e2, e3, e4, e5⟩
          · refine Or.inl ⟨e1, fun m a b => ?_⟩
            by_cases e : m = l
            · rw [e]; exact k2
            · exact e2 m (by omega) b
          · refine Or.inr ⟨e1, e2, e3, e4, fun m a b d => ?_⟩
            by_cases e : m = l
            · rw [e] at d; exact absurd d k2
            · exact e5 m (by omega) b d
        · simp only [s_X7_lowestBestFrom_14_s]
          simp (disch := omega) only [cLt_t, cLt_f, cEq_t, cEq_f, cLtL_t, cLtL_f, cEqL_t, cEqL_f, cR_t, cRL_t, cZ_t, cN_t, cCp_t, rdA_t, ob_e, bd1_e, bd2_e, bd3_e, bd4_e, bd5_e, bd6_e, bd7_e, bd8_e, bd9_e, bd10_e, bd12_e, z1, x3]) (by
    intro fu s _
    simp only [s_X7_lowestBestFrom_14_s]
    simp (disch := omega) only [cLt_t, cLt_f, cEq_t, cEq_f, cLtL_t, cLtL_f, cEqL_t, cEqL_f, cR_t, cRL_t, cZ_t, cN_t, cCp_t, rdA_t, ob_e, bd1_e, bd2_e, bd3_e, bd4_e, bd5_e, bd6_e, bd7_e, bd8_e, bd9_e, bd10_e, bd12_e]) FU (FU_lt (by omega))
  have d2 : s_X7_lowestBestFrom_14 FU gv wt sl words bf p (-1) (lf words p) 1 = some d := d2
  have key : ∀ k, MS gv len live words p k → len k < lf words p + 1 := fun k a => by
    have hr := a.rg hK hT g1 (by omega)
    rcases Int.lt_or_le (lf words p) (len k) with z | z
    · have := x2.2.2.1 _ z; omega
    · omega
  have e : d = t p := by
    rcases d1 with ⟨e1, e2⟩ | ⟨e1, e2, e3, e4, e5⟩
    · rcases hL.2.2 with ⟨a1, -⟩ | ⟨a1, a2, a3, a4, a5, a6, a7⟩
      · omega
      · have hr := a3.rg hK hT g1 (by omega)
        refine absurd ?_ (e2 (len (t p)) (key _ a3) hr.2.2.2.2.2.2.2.2)
        rw [a3.2]
        unfold cnd pkf; rw [a4, a5, a6]; omega
    · rcases hL.2.2 with ⟨a1, a2, a3, a4, a5⟩ | ⟨a1, a2, a3, a4, a5, a6, a7⟩
      · have := a5 d e3.1.2.1 e3; omega
      · have hr := a3.rg hK hT g1 (by omega)
        have q1 := e5 (len (t p)) (key _ a3) hr.2.2.2.2.2.2.2.2 (by rw [a3.2]; unfold cnd pkf; rw [a4, a5, a6]; omega)
        rw [a3.2] at q1
        by_cases q : d < t p
        · have := a7 d q e3; omega
        · omega
  subst e
  unfold s_X7_lowestBestFrom
  simp (disch := omega) only [cLt_t, cLt_f, cEq_t, cEq_f, cLtL_t, cLtL_f, cEqL_t, cEqL_f, cR_t, cRL_t, cZ_t, cN_t, cCp_t, rdA_t, ob_e, bd1_e, bd2_e, bd3_e, bd4_e, bd5_e, bd6_e, bd7_e, bd8_e, bd9_e, bd10_e, bd12_e, x1, d2]
theorem sm_one1 : ∀ n : Nat, sm (fun _ => 1) n = (n : Int) := by
  intro n
  induction n with
  | zero => rfl
  | succ n ih => rw [sm_succ, ih]; omega
theorem cover_both {gv on sl sz tm : Int} {len bytes wt live str words starts kat cA wA nA tA bf pos num tak : Int → Int} (hK : KW gv len bytes wt live) (hd : DSJ on gv len bytes live) (o1 : 0 ≤ on) (o2 : on ≤ 1) (hs1 : 0 ≤ sl) (hs2 : sl ≤ 600) (hS : RB str 0 600) (hT : TBI on gv len bytes live str sl words) :
    ∃ s2 k2 c w n t size2 pos2 num2 tak2 bf2, s_X8_laysCover gv on sl len bytes wt live str starts kat cA wA nA tA = some (s2, k2, c, w, n, t) ∧ s_X7_chooseCover gv len wt sl words sz pos num bf = some (size2, pos2, num2, bf2) ∧ s_X8_laysTaken sl tm len t tak = some (size2, tak2) ∧ CS sl size2 pos2 num2 tak2 t ∧ (∀ i, 0 ≤ i → i < size2 → 0 ≤ num2 i ∧ num2 i < gv) ∧ c 0 = sm (fun i => len (num2 (i : Int))) size2.toNat ∧ w 0 = sm (fun i => wt (num2 (i : Int))) size2.toNat ∧ n 0 = size2 := by
  obtain ⟨s2, k2, c, w, n, t, h1, h2⟩ := X8_laysCover_e (starts := starts) (kat := kat) (cA := cA) (wA := wA) (nA := nA) (tA := tA) hK hd o1 o2 hs1 hs2 hS hT
  obtain ⟨bf2, m1, m2⟩ := measureCovers_e (bf := bf) hK hT hs1 hs2 h2
  have hg := hK.2.1
  have ht : ∀ p, 0 ≤ p → p < sl → t p = -1 ∨ (0 ≤ t p ∧ t p < gv ∧ 1 ≤ len (t p) ∧ len (t p) ≤ 16 ∧ p + len (t p) ≤ sl) := by
    intro p a b
    rcases (h2.2.2.2.2 p a b).2.2 with ⟨q, -⟩ | ⟨-, -, q, -⟩
    · exact Or.inl q
    · have := q.rg hK hT a (by omega)
      exact Or.inr ⟨by omega, by omega, by omega, by omega, by omega⟩
  obtain ⟨size2, pos2, num2, tak2, a1, a2, a3, a4, a5, a6⟩ := choose_both (L := fun fu size pos num free p => s_X7_chooseCover_15 fu gv len wt sl words size pos num bf2 free p) hs1 hs2 hg ht (by
    intro fu size pos num free p x1 x2 x3 x4 x5
    simp only [s_X7_chooseCover_15_s]
    simp (disch := omega) only [cLt_t, cLt_f, cEq_t, cEq_f, cLtL_t, cLtL_f, cEqL_t, cEqL_f, cR_t, cRL_t, cZ_t, cN_t, cCp_t, rdA_t, ob_e, bd1_e, bd2_e, bd3_e, bd4_e, bd5_e, bd6_e, bd7_e, bd8_e, bd9_e, bd10_e, bd12_e]) (by
    intro fu size pos num free p x1 x2 x3 x4 x5
    have y1 := lowestBestFrom_e hK hT hs1 hs2 h2 m2 x1 x2
    simp only [s_X7_chooseCover_15_s]
    simp (disch := omega) only [cLt_t, cLt_f, cEq_t, cEq_f, cLtL_t, cLtL_f, cEqL_t, cEqL_f, cR_t, cRL_t, cZ_t, cN_t, cCp_t, rdA_t, ob_e, bd1_e, bd2_e, bd3_e, bd4_e, bd5_e, bd6_e, bd7_e, bd8_e, bd9_e, bd10_e, bd12_e, y1]) (by
    intro fu size pos num free p x1 x2 x3 x4 x5 x6 x7
    have y1 := lowestBestFrom_e hK hT hs1 hs2 h2 m2 x1 x2
    have y2 : 0 ≤ t p ∧ t p < gv := by
      rcases ht p x1 x2 with q | q
      · exact absurd q x5
      · exact ⟨q.1, q.2.1⟩
    have y6 := X4_add6_e (size := size) (v := p) (x := t p) (fP := pos) (fN := num) x6 x7
    have y7 := X3_lengthOf_e (gv := gv) (k := t p) (len := len) y2.1 y2.2 hg
    simp only [s_X7_chooseCover_15_s]
    simp (disch := omega) only [cLt_t, cLt_f, cEq_t, cEq_f, cLtL_t, cLtL_f, cEqL_t, cEqL_f, cR_t, cRL_t, cZ_t, cN_t, cCp_t, rdA_t, ob_e, bd1_e, bd2_e, bd3_e, bd4_e, bd5_e, bd6_e, bd7_e, bd8_e, bd9_e, bd10_e, bd12_e, y1, y6, y7]) (by
    intro fu size pos num free x1 x2
    simp only [s_X7_chooseCover_15_s]
    simp (disch := omega) only [cLt_t, cLt_f, cEq_t, cEq_f, cLtL_t, cLtL_f, cEqL_t, cEqL_f, cR_t, cRL_t, cZ_t, cN_t, cCp_t, rdA_t, ob_e, bd1_e, bd2_e, bd3_e, bd4_e, bd5_e, bd6_e, bd7_e, bd8_e, bd9_e, bd10_e, bd12_e]) sl.toNat 0 0 0 pos num tak FU FU (by omega) (by omega) (by omega) (by omega) (by omega) (by omega) (fun i a b => by omega) (FU_lt (by omega)) (FU_lt (by omega))
  have a1 : s_X7_chooseCover_15 FU gv len wt sl words 0 pos num bf2 0 0 = some (size2, pos2, num2) := a1
  have hz : ∀ f : Nat → Int, sm f (0 : Int).toNat = 0 := fun f => rfl
  refine ⟨s2, k2, c, w, n, t, size2, pos2, num2, tak2, bf2, h1, ?_, ?_, ⟨a3, a4, a5⟩, fun i a b => ?_, ?_, ?_, ?_⟩
  · unfold s_X7_chooseCover s_X4_clear
    simp (disch := omega) only [cLt_t, cLt_f, cEq_t, cEq_f, cLtL_t, cLtL_f, cEqL_t, cEqL_f, cR_t, cRL_t, cZ_t, cN_t, cCp_t, rdA_t, ob_e, bd1_e, bd2_e, bd3_e, bd4_e, bd5_e, bd6_e, bd7_e, bd8_e, bd9_e, bd10_e, bd12_e, m1, a1]
  · unfold s_X8_laysTaken
    simp (disch := omega) only [cLt_t, cLt_f, cEq_t, cEq_f, cLtL_t, cLtL_f, cEqL_t, cEqL_f, cR_t, cRL_t, cZ_t, cN_t, cCp_t, rdA_t, ob_e, bd1_e, bd2_e, bd3_e, bd4_e, bd5_e, bd6_e, bd7_e, bd8_e, bd9_e, bd10_e, bd12_e, a2]
  · obtain ⟨q1, q2, q3, q4, q5⟩ := a5 i a b
    rw [q4]
    rcases ht (pos2 i) q1 q2 with q | q
    · exact absurd q q5
    · exact ⟨q.1, q.2.1⟩
  · have := a6 len c h2.1 (fun q x y z => by
      rcases (h2.2.2.2.2 q x y).2.2 with ⟨r, r2, -⟩ | ⟨r, -⟩
      · exact r2
      · exact absurd z r) (fun q x y z => by
      rcases (h2.2.2.2.2 q x y).2.2 with ⟨r, -⟩ | ⟨r, r2, r3, r4, -⟩
      · exact absurd r z
      · exact r4)
    rw [hz] at this; omega
  · have := a6 wt w h2.2.1 (fun q x y z => by
      rcases (h2.2.2.2.2 q x y).2.2 with ⟨r, r2, r3, -⟩ | ⟨r, -⟩
      · exact r3
      · exact absurd z r) (fun q x y z => by
      rcases (h2.2.2.2.2 q x y).2.2 with ⟨r, -⟩ | ⟨r, r2, r3, r4, r5, -⟩
      · exact absurd r z
      · exact r5)
    rw [hz] at this; omega
  · have := a6 (fun _ => 1) n h2.2.2.1 (fun q x y z => by
      rcases (h2.2.2.2.2 q x y).2.2 with ⟨r, r2, r3, r4, -⟩ | ⟨r, -⟩
      · exact r4
      · exact absurd z r) (fun q x y z => by
      rcases (h2.2.2.2.2 q x y).2.2 with ⟨r, -⟩ | ⟨r, r2, r3, r4, r5, r6, -⟩
      · exact absurd r z
      · exact r6)
    rw [hz] at this
    have e := sm_one1 size2.toNat
    omega
