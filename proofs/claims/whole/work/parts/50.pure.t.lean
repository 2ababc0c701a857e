/-! ===== the longest match at a place; contained matches; gaps ===== -/
def lfN (words : Int → Int) (p : Int) : Nat → Int
  | 0 => 0
  | n + 1 => if ha words p ((n : Int) + 1) = 0 then lfN words p n else (n : Int) + 1
def lf (words : Int → Int) (p : Int) : Int := lfN words p 16
theorem lfN_e (words : Int → Int) (p : Int) : ∀ n : Nat, 0 ≤ lfN words p n ∧ lfN words p n ≤ n ∧ (∀ l, lfN words p n < l → l ≤ n → ha words p l = 0) ∧ (lfN words p n = 0 ∨ ha words p (lfN words p n) = 1) := by
  intro n
  induction n with
  | zero => exact ⟨Int.le_refl _, Int.le_refl _, fun l a b => by have a : 0 < l := a; omega, Or.inl rfl⟩
  | succ n ih =>
    unfold lfN
    by_cases c : ha words p ((n : Int) + 1) = 0
    · rw [if_pos c]
      refine ⟨ih.1, by omega, fun l a b => ?_, ih.2.2.2⟩
      by_cases e : l = (n : Int) + 1
      · rw [e]; exact c
      · exact ih.2.2.1 l a (by omega)
    · rw [if_neg c]
      have := ha_rg words p ((n : Int) + 1)
      exact ⟨by omega, by omega, fun l a b => by omega, Or.inr (by omega)⟩
theorem lf_e (words : Int → Int) (p : Int) : 0 ≤ lf words p ∧ lf words p ≤ 16 ∧ (∀ l, lf words p < l → ha words p l = 0) ∧ (lf words p = 0 ∨ ha words p (lf words p) = 1) := by
  have h := lfN_e words p 16
  refine ⟨h.1, h.2.1, fun l a => ?_, h.2.2.2⟩
  by_cases c : l ≤ 16
  · exact h.2.2.1 l a c
  · unfold ha; exact if_neg (by omega)
theorem X5_longestFrom_e {words : Int → Int} {p : Int} (h1 : 0 ≤ p) (h2 : p < 1000000) : s_X5_longestFrom words p = some (lf words p) := by
  have key : ∀ (n fu : Nat), n ≤ 16 → n < fu → s_X5_longestFrom_3 fu words p (n : Int) = some (lfN words p n) := by
    intro n
    induction n with
    | zero =>
      intro fu _ hf
      obtain ⟨f, rfl⟩ : ∃ f, fu = f + 1 := ⟨fu - 1, by omega⟩
      simp only [s_X5_longestFrom_3_s]
      simp (disch := omega) only [cLt_t, cLt_f, cEq_t, cEq_f, cLtL_t, cLtL_f, cEqL_t, cEqL_f, cR_t, cRL_t, cZ_t, cN_t, cCp_t, rdA_t, ob_e, bd1_e, bd2_e, bd3_e, bd4_e, bd5_e, bd6_e, bd7_e, bd8_e, bd9_e, bd10_e, bd12_e]
      rfl
    | succ n ih =>
      intro fu hn hf
      obtain ⟨f, rfl⟩ : ∃ f, fu = f + 1 := ⟨fu - 1, by omega⟩
      simp only [s_X5_longestFrom_3_s]
      obtain ⟨x, x1, x2, x3, x4⟩ := X5_at_h (words := words) (p := p) (l := ((n + 1 : Nat) : Int)) (by omega) (by omega) (by omega) (by omega)
      unfold lfN
      rw [show ((n + 1 : Nat) : Int) = (n : Int) + 1 by omega] at *
      rcases x4 with ⟨y1, y2⟩ | ⟨y1, y2, y3⟩
      · simp (disch := omega) only [cLt_t, cLt_f, cEq_t, cEq_f, cLtL_t, cLtL_f, cEqL_t, cEqL_f, cR_t, cRL_t, cZ_t, cN_t, cCp_t, rdA_t, ob_e, bd1_e, bd2_e, bd3_e, bd4_e, bd5_e, bd6_e, bd7_e, bd8_e, bd9_e, bd10_e, bd12_e, x1]
        rw [if_pos y2, show (n : Int) + 1 + -1 = (n : Int) by omega]
        exact ih f (by omega) (by omega)
      · simp (disch := omega) only [cLt_t, cLt_f, cEq_t, cEq_f, cLtL_t, cLtL_f, cEqL_t, cEqL_f, cR_t, cRL_t, cZ_t, cN_t, cCp_t, rdA_t, ob_e, bd1_e, bd2_e, bd3_e, bd4_e, bd5_e, bd6_e, bd7_e, bd8_e, bd9_e, bd10_e, bd12_e, x1]
        rw [if_neg (by omega)]
  unfold s_X5_longestFrom
  exact key 16 FU (by omega) (FU_lt (by omega))
/-- a match that lies within a longer one -/
def CM (words : Int → Int) (p l : Int) : Prop := ∃ q n, 0 ≤ q ∧ q ≤ p ∧ l < n ∧ p + l ≤ q + n ∧ ha words q n = 1
theorem CM.near {words : Int → Int} {p l : Int} (h1 : 1 ≤ l) (h : CM words p l) : ∃ q n, 0 ≤ q ∧ p - 15 ≤ q ∧ q ≤ p ∧ l < n ∧ n ≤ 16 ∧ p + l ≤ q + n ∧ ha words q n = 1 := by
  obtain ⟨q, n, a, b, c, d, e⟩ := h
  have : n ≤ 16 := by
    unfold ha at e
    by_cases z : (0 ≤ q ∧ q < 600 ∧ 1 ≤ n ∧ n ≤ 16) ∧ mt words q n ≠ -1
    · exact z.1.2.2.2
    · rw [if_neg z] at e; omega
  exact ⟨q, n, a, by omega, b, c, this, d, e⟩
def RH (words : Int → Int) (p r : Int) : Prop := (∀ q, 0 ≤ q → q < p → q + lf words q - 1 ≤ r) ∧ (r = -1 ∨ ∃ q, 0 ≤ q ∧ q < p ∧ r = q + lf words q - 1)
theorem RH.cm {words : Int → Int} {p r l : Int} (h : RH words p r) (h0 : 0 ≤ p) (h1 : 1 ≤ l) : CM words p l ↔ (l < lf words p ∨ p + l - 1 ≤ r) := by
  constructor
  · rintro ⟨q, n, a, b, c, d, e⟩
    have hq := lf_e words q
    have hn : n ≤ lf words q := by
      rcases Int.lt_or_le (lf words q) n with z | z
      · have := hq.2.2.1 n z; omega
      · exact z
    by_cases z : q = p
    · subst z; left; omega
    · right
      have := h.1 q a (by omega)
      omega
  · rintro (a | a)
    · have hq := lf_e words p
      exact ⟨p, lf words p, h0, Int.le_refl _, a, by omega, by rcases hq.2.2.2 with z | z <;> omega⟩
    · rcases h.2 with z | ⟨q, b, c, d⟩
      · omega
      · have hq := lf_e words q
        exact ⟨q, lf words q, b, by omega, by omega, by omega, by rcases hq.2.2.2 with z | z <;> omega⟩
noncomputable def ct (words : Int → Int) (p : Int) : Int := sm (fun i => ind (ha words p ((i : Int) + 1) = 1 ∧ CM words p ((i : Int) + 1))) 16
theorem X7_containedFrom_e {words : Int → Int} {p r : Int} (h1 : 0 ≤ p) (h2 : p < 600) (h : RH words p r) (hr1 : -1 ≤ r) (hr2 : r ≤ 1000) : s_X7_containedFrom words p r = some (ct words p) := by
  have hl := lf_e words p
  have x1 := X5_longestFrom_e (words := words) (p := p) h1 (by omega)
  obtain ⟨a, a1, a2⟩ := loopJ (fun fu (s : Int) l => s_X7_containedFrom_15 fu words p r (lf words p) s l) (fun s => s) 1 (lf words p + 1) (by omega) 0 (fun l s => s = sm (fun i => ind (ha words p ((i : Int) + 1) = 1 ∧ CM words p ((i : Int) + 1))) (l - 1).toNat) rfl (by
    intro fu s l g1 g2 g3
    have z3 : (((l - 1).toNat : Nat) : Int) + 1 = l := by omega
    obtain ⟨x, y1, y2, y3, y4⟩ := X5_at_h (words := words) (p := p) (l := l) (by omega) (by omega) (by omega) (by omega)
    have hc := h.cm h1 g1
    refine ⟨s + ind (ha words p l = 1 ∧ CM words p l), ?_, ?_⟩
    · show s + _ = _
      rw [sm_nx g1, z3, g3]
    · simp only [s_X7_containedFrom_15_s]
      have e0 : s + 0 = s := by omega
      by_cases c1 : l < lf words p
      · rcases y4 with ⟨w1, w2⟩ | ⟨w1, w2, w3⟩
        · rw [ind_f (fun q => by omega)]
          simp (disch := omega) only [cLt_t, cLt_f, cEq_t, cEq_f, cLtL_t, cLtL_f, cEqL_t, cEqL_f, cR_t, cRL_t, cZ_t, cN_t, cCp_t, rdA_t, ob_e, bd1_e, bd2_e, bd3_e, bd4_e, bd5_e, bd6_e, bd7_e, bd8_e, bd9_e, bd10_e, bd12_e, y1, e0]
        · rw [ind_t ⟨w2, hc.mpr (Or.inl c1)⟩]
          simp (disch := omega) only [cLt_t, cLt_f, cEq_t, cEq_f, cLtL_t, cLtL_f, cEqL_t, cEqL_f, cR_t, cRL_t, cZ_t, cN_t, cCp_t, rdA_t, ob_e, bd1_e, bd2_e, bd3_e, bd4_e, bd5_e, bd6_e, bd7_e, bd8_e, bd9_e, bd10_e, bd12_e, y1]
      · by_cases c2 : p + l - 1 ≤ r
        · rcases y4 with ⟨w1, w2⟩ | ⟨w1, w2, w3⟩
          · rw [ind_f (fun q => by omega)]
            simp (disch := omega) only [cLt_t, cLt_f, cEq_t, cEq_f, cLtL_t, cLtL_f, cEqL_t, cEqL_f, cR_t, cRL_t, cZ_t, cN_t, cCp_t, rdA_t, ob_e, bd1_e, bd2_e, bd3_e, bd4_e, bd5_e, bd6_e, bd7_e, bd8_e, bd9_e, bd10_e, bd12_e, y1, e0]
          · rw [ind_t ⟨w2, hc.mpr (Or.inr c2)⟩]
            simp (disch := omega) only [cLt_t, cLt_f, cEq_t, cEq_f, cLtL_t, cLtL_f, cEqL_t, cEqL_f, cR_t, cRL_t, cZ_t, cN_t, cCp_t, rdA_t, ob_e, bd1_e, bd2_e, bd3_e, bd4_e, bd5_e, bd6_e, bd7_e, bd8_e, bd9_e, bd10_e, bd12_e, y1]
        · rw [ind_f (fun q => by rcases hc.mp q.2 with z | z <;> omega)]
          simp (disch := omega) only [cLt_t, cLt_f, cEq_t, cEq_f, cLtL_t, cLtL_f, cEqL_t, cEqL_f, cR_t, cRL_t, cZ_t, cN_t, cCp_t, rdA_t, ob_e, bd1_e, bd2_e, bd3_e, bd4_e, bd5_e, bd6_e, bd7_e, bd8_e, bd9_e, bd10_e, bd12_e, e0]) (by
    intro fu s _
    simp only [s_X7_containedFrom_15_s]
    simp (disch := omega) only [cLt_t, cLt_f, cEq_t, cEq_f, cLtL_t, cLtL_f, cEqL_t, cEqL_f, cR_t, cRL_t, cZ_t, cN_t, cCp_t, rdA_t, ob_e, bd1_e, bd2_e, bd3_e, bd4_e, bd5_e, bd6_e, bd7_e, bd8_e, bd9_e, bd10_e, bd12_e]) FU (FU_lt (by omega))
  have a2 : s_X7_containedFrom_15 FU words p r (lf words p) 0 1 = some a := a2
  have e : a = ct words p := by
    rw [a1]
    unfold ct
    refine (sm_ext 16 (by omega) (fun i u v => ?_)).symm
    refine ind_f (fun q => ?_)
    have := hl.2.2.1 ((i : Int) + 1) (by omega)
    omega
  subst e
  unfold s_X7_containedFrom
  simp (disch := omega) only [cLt_t, cLt_f, cEq_t, cEq_f, cLtL_t, cLtL_f, cEqL_t, cEqL_f, cR_t, cRL_t, cZ_t, cN_t, cCp_t, rdA_t, ob_e, bd1_e, bd2_e, bd3_e, bd4_e, bd5_e, bd6_e, bd7_e, bd8_e, bd9_e, bd10_e, bd12_e, x1, a2]
theorem X8_isContained_17_e {sl p l : Int} {words s2 k2 : Int → Int} (l2 : LM sl words s2 k2) (hs2 : sl ≤ 600) (g1 : 0 ≤ p) (g2 : p < sl) (h1 : 1 ≤ l) (h2 : l ≤ 16) (a : Int) (ha1 : 0 ≤ a) (ha2 : a ≤ p + 1) : ∃ r, s_X8_isContained_17 FU s2 p l a = some r ∧ BB r (∃ q n, a ≤ q ∧ q ≤ p ∧ l < n ∧ n ≤ 16 ∧ p + l ≤ q + n ∧ ha words q n = 1) := by
  refine loopR (fun fu q => s_X8_isContained_17 fu s2 p l q) (fun q => (p + 1 - q).toNat) (fun q => a ≤ q ∧ q ≤ p + 1 ∧ ∀ q' n, a ≤ q' → q' < q → l < n → n ≤ 16 → p + l ≤ q' + n → ha words q' n ≠ 1) (fun r => BB r (∃ q n, a ≤ q ∧ q ≤ p ∧ l < n ∧ n ≤ 16 ∧ p + l ≤ q + n ∧ ha words q n = 1)) ?_ FU a ⟨Int.le_refl _, ha2, fun q' n x y => by omega⟩ (FU_lt (by omega))
  intro fu q ⟨i1, i2, i3⟩
  simp only [s_X8_isContained_17_s]
  by_cases c : p < q
  · left
    refine ⟨0, by simp (disch := omega) only [cLt_t, cLt_f, cEq_t, cEq_f, cLtL_t, cLtL_f, cEqL_t, cEqL_f, cR_t, cRL_t, cZ_t, cN_t, cCp_t, rdA_t, ob_e, bd1_e, bd2_e, bd3_e, bd4_e, bd5_e, bd6_e, bd7_e, bd8_e, bd9_e, bd10_e, bd12_e], Or.inr ⟨rfl, ?_⟩⟩
    rintro ⟨q', n, x1, x2, x3, x4, x5, x6⟩
    exact i3 q' n x1 (by omega) x3 x4 x5 x6
  · have B := loopR (fun fu n => s_X8_isContained_27 fu s2 p l q n) (fun n => (17 - n).toNat) (fun n => l + 1 ≤ n ∧ n ≤ 17 ∧ ∀ m, l < m → m < n → p + l ≤ q + m → ha words q m ≠ 1) (fun r => (r = .inl 1 ∧ ∃ m, l < m ∧ m ≤ 16 ∧ p + l ≤ q + m ∧ ha words q m = 1) ∨ (r = .inr () ∧ ∀ m, l < m → m ≤ 16 → p + l ≤ q + m → ha words q m ≠ 1)) ?_ FU (l + 1) ⟨Int.le_refl _, by omega, fun m x y => by omega⟩ (FU_lt (by omega))
    · obtain ⟨r, b1, b2⟩ := B
      have b1 : s_X8_isContained_27 FU s2 p l q (l + 1) = some r := b1
      rcases b2 with ⟨e, m, x1, x2, x3, x4⟩ | ⟨e, x1⟩
      · left
        refine ⟨1, ?_, Or.inl ⟨rfl, q, m, i1, by omega, x1, x2, x3, x4⟩⟩
        rw [e] at b1
        simp (disch := omega) only [cLt_t, cLt_f, cEq_t, cEq_f, cLtL_t, cLtL_f, cEqL_t, cEqL_f, cR_t, cRL_t, cZ_t, cN_t, cCp_t, rdA_t, ob_e, bd1_e, bd2_e, bd3_e, bd4_e, bd5_e, bd6_e, bd7_e, bd8_e, bd9_e, bd10_e, bd12_e, b1]
        rfl
      · right
        refine ⟨q + 1, ⟨by omega, by omega, fun q' n y1 y2 y3 y4 y5 => ?_⟩, by omega, ?_⟩
        · by_cases z : q' = q
          · rw [z]; exact x1 n y3 y4 (by omega)
          · exact i3 q' n y1 (by omega) y3 y4 y5
        · rw [e] at b1
          simp (disch := omega) only [cLt_t, cLt_f, cEq_t, cEq_f, cLtL_t, cLtL_f, cEqL_t, cEqL_f, cR_t, cRL_t, cZ_t, cN_t, cCp_t, rdA_t, ob_e, bd1_e, bd2_e, bd3_e, bd4_e, bd5_e, bd6_e, bd7_e, bd8_e, bd9_e, bd10_e, bd12_e, b1]
          rfl
    · intro fu n ⟨j1, j2, j3⟩
      simp only [s_X8_isContained_27_s]
      by_cases c2 : 16 < n
      · left
        exact ⟨.inr (), by simp (disch := omega) only [cLt_t, cLt_f, cEq_t, cEq_f, cLtL_t, cLtL_f, cEqL_t, cEqL_f, cR_t, cRL_t, cZ_t, cN_t, cCp_t, rdA_t, ob_e, bd1_e, bd2_e, bd3_e, bd4_e, bd5_e, bd6_e, bd7_e, bd8_e, bd9_e, bd10_e, bd12_e], Or.inr ⟨rfl, fun m x y z => j3 m x (by omega) z⟩⟩
      · by_cases c3 : q + n < p + l
        · right
          refine ⟨n + 1, ⟨by omega, by omega, fun m x y z => ?_⟩, by omega, by simp (disch := omega) only [cLt_t, cLt_f, cEq_t, cEq_f, cLtL_t, cLtL_f, cEqL_t, cEqL_f, cR_t, cRL_t, cZ_t, cN_t, cCp_t, rdA_t, ob_e, bd1_e, bd2_e, bd3_e, bd4_e, bd5_e, bd6_e, bd7_e, bd8_e, bd9_e, bd10_e, bd12_e]⟩
          exact j3 m x (by omega) z
        · have z1 := X8_hasAt_e l2 hs2 (show 0 ≤ q by omega) (show q < sl by omega) (show 1 ≤ n by omega) (show n ≤ 16 by omega)
          have z2 := ha_rg words q n
          by_cases c4 : ha words q n = 0
          · right
            refine ⟨n + 1, ⟨by omega, by omega, fun m x y z => ?_⟩, by omega, by simp (disch := omega) only [cLt_t, cLt_f, cEq_t, cEq_f, cLtL_t, cLtL_f, cEqL_t, cEqL_f, cR_t, cRL_t, cZ_t, cN_t, cCp_t, rdA_t, ob_e, bd1_e, bd2_e, bd3_e, bd4_e, bd5_e, bd6_e, bd7_e, bd8_e, bd9_e, bd10_e, bd12_e, z1]⟩
            by_cases w : m = n
            · rw [w]; omega
            · exact j3 m x (by omega) z
          · left
            exact ⟨.inl 1, by simp (disch := omega) only [cLt_t, cLt_f, cEq_t, cEq_f, cLtL_t, cLtL_f, cEqL_t, cEqL_f, cR_t, cRL_t, cZ_t, cN_t, cCp_t, rdA_t, ob_e, bd1_e, bd2_e, bd3_e, bd4_e, bd5_e, bd6_e, bd7_e, bd8_e, bd9_e, bd10_e, bd12_e, z1], Or.inl ⟨rfl, n, by omega, by omega, by omega, by omega⟩⟩
theorem X8_isContained_e {sl p l : Int} {words s2 k2 : Int → Int} (l2 : LM sl words s2 k2) (hs2 : sl ≤ 600) (g1 : 0 ≤ p) (g2 : p < sl) (h1 : 1 ≤ l) (h2 : l ≤ 16) : ∃ r, s_X8_isContained s2 p l = some r ∧ BB r (CM words p l) := by
  unfold s_X8_isContained
  by_cases c : p < 16
  · obtain ⟨r, b1, b2⟩ := X8_isContained_17_e l2 hs2 g1 g2 h1 h2 0 (by omega) (by omega)
    refine ⟨r, by simp (disch := omega) only [cLt_t, cLt_f, cEq_t, cEq_f, cLtL_t, cLtL_f, cEqL_t, cEqL_f, cR_t, cRL_t, cZ_t, cN_t, cCp_t, rdA_t, ob_e, bd1_e, bd2_e, bd3_e, bd4_e, bd5_e, bd6_e, bd7_e, bd8_e, bd9_e, bd10_e, bd12_e, b1], ?_⟩
    rcases b2 with ⟨e, q, n, x1, x2, x3, x4, x5, x6⟩ | ⟨e, x⟩
    · exact Or.inl ⟨e, q, n, x1, x2, x3, x5, x6⟩
    · refine Or.inr ⟨e, fun w => x ?_⟩
      obtain ⟨q, n, y1, y2, y3, y4, y5, y6, y7⟩ := w.near h1
      exact ⟨q, n, y1, y3, y4, y5, y6, y7⟩
  · obtain ⟨r, b1, b2⟩ := X8_isContained_17_e l2 hs2 g1 g2 h1 h2 (p - 16 + 1) (by omega) (by omega)
    refine ⟨r, by simp (disch := omega) only [cLt_t, cLt_f, cEq_t, cEq_f, cLtL_t, cLtL_f, cEqL_t, cEqL_f, cR_t, cRL_t, cZ_t, cN_t, cCp_t, rdA_t, ob_e, bd1_e, bd2_e, bd3_e, bd4_e, bd5_e, bd6_e, bd7_e, bd8_e, bd9_e, bd10_e, bd12_e, b1], ?_⟩
    rcases b2 with ⟨e, q, n, x1, x2, x3, x4, x5, x6⟩ | ⟨e, x⟩
    · exact Or.inl ⟨e, q, n, by omega, x2, x3, x5, x6⟩
    · refine Or.inr ⟨e, fun w => x ?_⟩
      obtain ⟨q, n, y1, y2, y3, y4, y5, y6, y7⟩ := w.near h1
      exact ⟨q, n, by omega, y3, y4, y5, y6, y7⟩
theorem op_containedMatches {gv on sl th : Int} {len bytes wt live str words starts kat : Int → Int} (hK : KW gv len bytes wt live) (hd : DSJ on gv len bytes live) (o1 : 0 ≤ on) (o2 : on ≤ 1) (hs1 : 0 ≤ sl) (hs2 : sl ≤ 600) (hS : RB str 0 600) (hT : TBI on gv len bytes live str sl words) : ∃ r s2 k2, s_X7_containedMatches sl words = some r ∧ s_X8_containedMatches th gv on sl len bytes live str starts kat = some (r, 0, s2, k2) := by
  obtain ⟨s2, k2, l1, l2⟩ := X8_laysMatches_e (starts := starts) (kat := kat) hK hd o1 o2 hs1 hs2 hS hT
  obtain ⟨a, a1, a2⟩ := loopJ (fun fu (s : Int × Int) p => s_X7_containedMatches_6 fu sl words s.1 s.2 p) (fun s => s.1) 0 sl hs1 (0, -1) (fun p s => s.1 = sm (fun i => ct words (i : Int)) (p - 0).toNat ∧ RH words p s.2 ∧ -1 ≤ s.2 ∧ s.2 ≤ 700) ⟨rfl, ⟨fun q x y => by omega, Or.inl rfl⟩, by show (-1 : Int) ≤ -1; omega, by show (-1 : Int) ≤ 700; omega⟩ (by
    intro fu ⟨s, r⟩ p g1 g2 ⟨g3, g4, g5, g6⟩
    have g3 : s = sm (fun i => ct words (i : Int)) (p - 0).toNat := g3
    have g4 : RH words p r := g4
    have g5 : -1 ≤ r := g5
    have g6 : r ≤ 700 := g6
    have x1 := X7_containedFrom_e g1 (by omega) g4 g5 (by omega)
    have x2 := X5_longestFrom_e (words := words) (p := p) g1 (by omega)
    have x3 := lf_e words p
    have x4 : (((p - 0).toNat : Nat) : Int) = p := by omega
    have x5 : iMax r (p + lf words p - 1) = r ∨ iMax r (p + lf words p - 1) = p + lf words p - 1 := by unfold iMax; split <;> omega
    have x6 : r ≤ iMax r (p + lf words p - 1) ∧ p + lf words p - 1 ≤ iMax r (p + lf words p - 1) := by unfold iMax; split <;> omega
    refine ⟨(s + ct words p, iMax r (p + lf words p - 1)), ⟨?_, ⟨fun q x y => ?_, ?_⟩, ?_, ?_⟩, ?_⟩
    · show s + _ = _
      rw [sm_nx g1, x4, g3]
    · show q + lf words q - 1 ≤ iMax r (p + lf words p - 1)
      by_cases e : q = p
      · rw [e]; omega
      · have := g4.1 q x (by omega); omega
    · show iMax r (p + lf words p - 1) = -1 ∨ ∃ q, 0 ≤ q ∧ q < p + 1 ∧ iMax r (p + lf words p - 1) = q + lf words q - 1
      rcases x5 with e | e
      · rw [e]
        rcases g4.2 with z | ⟨q, z1, z2, z3⟩
        · exact Or.inl z
        · exact Or.inr ⟨q, z1, by omega, z3⟩
      · rw [e]
        exact Or.inr ⟨p, g1, by omega, rfl⟩
    · show -1 ≤ iMax r (p + lf words p - 1)
      omega
    · show iMax r (p + lf words p - 1) ≤ 700
      omega
    · simp only [s_X7_containedMatches_6_s]
      simp (disch := omega) only [cLt_t, cLt_f, cEq_t, cEq_f, cLtL_t, cLtL_f, cEqL_t, cEqL_f, cR_t, cRL_t, cZ_t, cN_t, cCp_t, rdA_t, ob_e, bd1_e, bd2_e, bd3_e, bd4_e, bd5_e, bd6_e, bd7_e, bd8_e, bd9_e, bd10_e, bd12_e, x1, x2]) (by
    intro fu s _
    simp only [s_X7_containedMatches_6_s]
    simp (disch := omega) only [cLt_t, cLt_f, cEq_t, cEq_f, cLtL_t, cLtL_f, cEqL_t, cEqL_f, cR_t, cRL_t, cZ_t, cN_t, cCp_t, rdA_t, ob_e, bd1_e, bd2_e, bd3_e, bd4_e, bd5_e, bd6_e, bd7_e, bd8_e, bd9_e, bd10_e, bd12_e]) FU (FU_lt (by omega))
  have a2 : s_X7_containedMatches_6 FU sl words 0 (-1) 0 = some a.1 := a2
  obtain ⟨b, b1, b2⟩ := loopJ (fun fu (s : Int) p => s_X8_containedMatches_13 fu sl s2 s p) (fun s => s) 0 sl hs1 0 (fun p s => s = sm (fun i => ct words (i : Int)) (p - 0).toNat) rfl (by
    intro fu s p g1 g2 g3
    have x4 : (((p - 0).toNat : Nat) : Int) = p := by omega
    obtain ⟨c, c1, c2⟩ := loopJ (fun fu (u : Int) l => s_X8_containedMatches_23 fu s2 u p l) (fun s => s) 1 17 (by omega) s (fun l u => u = s + sm (fun i => ind (ha words p ((i : Int) + 1) = 1 ∧ CM words p ((i : Int) + 1))) (l - 1).toNat) (by show _ = _ + 0; omega) (by
      intro fu u l y1 y2 y3
      have z1 := X8_hasAt_e l2 hs2 g1 g2 y1 (show l ≤ 16 by omega)
      have z2 := ha_rg words p l
      have z3 : (((l - 1).toNat : Nat) : Int) + 1 = l := by omega
      obtain ⟨w, w1, w2⟩ := X8_isContained_e l2 hs2 g1 g2 y1 (show l ≤ 16 by omega)
      refine ⟨u + ind (ha words p l = 1 ∧ CM words p l), ?_, ?_⟩
      · show u + _ = _
        rw [sm_nx y1, z3, y3]; omega
      · simp only [s_X8_containedMatches_23_s]
        by_cases c : ha words p l = 0
        · rw [ind_f (fun q => by omega)]
          simp (disch := omega) only [cLt_t, cLt_f, cEq_t, cEq_f, cLtL_t, cLtL_f, cEqL_t, cEqL_f, cR_t, cRL_t, cZ_t, cN_t, cCp_t, rdA_t, ob_e, bd1_e, bd2_e, bd3_e, bd4_e, bd5_e, bd6_e, bd7_e, bd8_e, bd9_e, bd10_e, bd12_e, z1]
        · rcases w2 with ⟨e, f⟩ | ⟨e, f⟩
          · rw [ind_t ⟨by omega, f⟩]
            simp (disch := omega) only [cLt_t, cLt_f, cEq_t, cEq_f, cLtL_t, cLtL_f, cEqL_t, cEqL_f, cR_t, cRL_t, cZ_t, cN_t, cCp_t, rdA_t, ob_e, bd1_e, bd2_e, bd3_e, bd4_e, bd5_e, bd6_e, bd7_e, bd8_e, bd9_e, bd10_e, bd12_e, z1, w1]
          · rw [ind_f (fun q => f q.2)]
            simp (disch := omega) only [cLt_t, cLt_f, cEq_t, cEq_f, cLtL_t, cLtL_f, cEqL_t, cEqL_f, cR_t, cRL_t, cZ_t, cN_t, cCp_t, rdA_t, ob_e, bd1_e, bd2_e, bd3_e, bd4_e, bd5_e, bd6_e, bd7_e, bd8_e, bd9_e, bd10_e, bd12_e, z1, w1]) (by
      intro fu s _
      simp only [s_X8_containedMatches_23_s]
      simp (disch := omega) only [cLt_t, cLt_f, cEq_t, cEq_f, cLtL_t, cLtL_f, cEqL_t, cEqL_f, cR_t, cRL_t, cZ_t, cN_t, cCp_t, rdA_t, ob_e, bd1_e, bd2_e, bd3_e, bd4_e, bd5_e, bd6_e, bd7_e, bd8_e, bd9_e, bd10_e, bd12_e]) FU (FU_lt (by omega))
    have c2 : s_X8_containedMatches_23 FU s2 s p 1 = some c := c2
    refine ⟨c, ?_, ?_⟩
    · show c = _
      have c1 : c = s + ct words p := c1
      rw [sm_nx g1, x4, c1, g3]
    · simp only [s_X8_containedMatches_13_s]
      simp (disch := omega) only [cLt_t, cLt_f, cEq_t, cEq_f, cLtL_t, cLtL_f, cEqL_t, cEqL_f, cR_t, cRL_t, cZ_t, cN_t, cCp_t, rdA_t, ob_e, bd1_e, bd2_e, bd3_e, bd4_e, bd5_e, bd6_e, bd7_e, bd8_e, bd9_e, bd10_e, bd12_e, c2]) (by
    intro fu s _
    simp only [s_X8_containedMatches_13_s]
    simp (disch := omega) only [cLt_t, cLt_f, cEq_t, cEq_f, cLtL_t, cLtL_f, cEqL_t, cEqL_f, cR_t, cRL_t, cZ_t, cN_t, cCp_t, rdA_t, ob_e, bd1_e, bd2_e, bd3_e, bd4_e, bd5_e, bd6_e, bd7_e, bd8_e, bd9_e, bd10_e, bd12_e]) FU (FU_lt (by omega))
  have b2 : s_X8_containedMatches_13 FU sl s2 0 0 = some b := b2
  have e : b = a.1 := by rw [a1.1, b1]
  subst e
  refine ⟨a.1, s2, k2, ?_, ?_⟩
  · unfold s_X7_containedMatches
    simp (disch := omega) only [cLt_t, cLt_f, cEq_t, cEq_f, cLtL_t, cLtL_f, cEqL_t, cEqL_f, cR_t, cRL_t, cZ_t, cN_t, cCp_t, rdA_t, ob_e, bd1_e, bd2_e, bd3_e, bd4_e, bd5_e, bd6_e, bd7_e, bd8_e, bd9_e, bd10_e, bd12_e, a2]
  · unfold s_X8_containedMatches
    simp (disch := omega) only [cLt_t, cLt_f, cEq_t, cEq_f, cLtL_t, cLtL_f, cEqL_t, cEqL_f, cR_t, cRL_t, cZ_t, cN_t, cCp_t, rdA_t, ob_e, bd1_e, bd2_e, bd3_e, bd4_e, bd5_e, bd6_e, bd7_e, bd8_e, bd9_e, bd10_e, bd12_e, l1, b2]
