/-! ===== gaps ===== -/
theorem sm_rg0 {f : Nat → Int} : ∀ {n : Nat}, (∀ i, i < n → 0 ≤ f i) → 0 ≤ sm f n := by
  intro n
  induction n with
  | zero => intro _; exact Int.le_refl _
  | succ n ih =>
    intro h
    have h1 := ih (fun i hi => h i (by omega))
    have h2 := h n (by omega)
    rw [sm_succ]; omega
theorem sm_pos {f : Nat → Int} : ∀ {n : Nat}, (∀ i, i < n → 0 ≤ f i) → (sm f n = 0 ↔ ∀ i, i < n → f i = 0) := by
  intro n h
  constructor
  · intro e
    induction n with
    | zero => intro i hi; omega
    | succ n ih =>
      have h1 := sm_rg0 (f := f) (n := n) (fun i hi => h i (by omega))
      have h2 := h n (by omega)
      rw [sm_succ] at e
      intro i hi
      by_cases c : i = n
      · rw [c]; omega
      · exact ih (fun i hi => h i (by omega)) (by omega) i (by omega)
  · intro e; exact sm_z e
theorem cov_iff (words : Int → Int) (p : Int) : Dp words p ≠ 0 ↔ ∃ q n, 0 ≤ q ∧ q ≤ p ∧ p < q + n ∧ ha words q n = 1 := by
  have h1 : Dp words p = 0 ↔ ∀ i, i < 16 → Dq words p i = 0 := sm_pos (fun i hi => (Dq_rg words p i).1)
  have h2 : ∀ i : Nat, Dq words p i = 0 ↔ ∀ l, l < 16 → (if i ≤ l then ha words (p - (i : Int)) ((l : Int) + 1) else 0) = 0 := fun i => sm_pos (fun l hl => by
    have := ha_rg words (p - (i : Int)) ((l : Int) + 1)
    split <;> omega)
  constructor
  · intro h
    apply Classical.byContradiction
    intro hn
    refine h (h1.mpr (fun i hi => (h2 i).mpr (fun l hl => ?_)))
    by_cases c : i ≤ l
    · rw [if_pos c]
      have z := ha_rg words (p - (i : Int)) ((l : Int) + 1)
      by_cases c2 : ha words (p - (i : Int)) ((l : Int) + 1) = 0
      · exact c2
      · refine absurd ⟨p - (i : Int), (l : Int) + 1, ?_, by omega, by omega, by omega⟩ hn
        rcases Int.lt_or_le (p - (i : Int)) 0 with y | y
        · exact absurd (ha_neg y) c2
        · exact y
    · rw [if_neg c]
  · rintro ⟨q, n, a, b, c, d⟩ h
    have hn : 1 ≤ n ∧ n ≤ 16 := by
      unfold ha at d
      by_cases z : (0 ≤ q ∧ q < 600 ∧ 1 ≤ n ∧ n ≤ 16) ∧ mt words q n ≠ -1
      · exact z.1.2.2
      · rw [if_neg z] at d; omega
    have := (h2 (p - q).toNat).mp (h1.mp h (p - q).toNat (by omega)) (n - 1).toNat (by omega)
    rw [if_pos (by omega), show p - (((p - q).toNat : Nat) : Int) = q by omega, show (((n - 1).toNat : Nat) : Int) + 1 = n by omega] at this
    omega
def rn (words : Int → Int) : Nat → Int
  | 0 => 0
  | n + 1 => if Dp words (n : Int) = 0 then rn words n + 1 else 0
def mx (words : Int → Int) : Nat → Int
  | 0 => 0
  | n + 1 => iMax (mx words n) (rn words (n + 1))
def gf (words : Int → Int) : Nat → Int
  | 0 => -1
  | n + 1 => if mx words n < rn words (n + 1) then (n : Int) + 1 - rn words (n + 1) else gf words n
theorem rn_rg (words : Int → Int) : ∀ n : Nat, 0 ≤ rn words n ∧ rn words n ≤ n := by
  intro n
  induction n with
  | zero => exact ⟨Int.le_refl _, Int.le_refl _⟩
  | succ n ih => unfold rn; split <;> omega
theorem mx_rg (words : Int → Int) : ∀ n : Nat, 0 ≤ mx words n ∧ mx words n ≤ n := by
  intro n
  induction n with
  | zero => exact ⟨Int.le_refl _, Int.le_refl _⟩
  | succ n ih =>
    have := rn_rg words (n + 1)
    unfold mx iMax; split <;> omega
theorem mx_ge (words : Int → Int) : ∀ n j : Nat, j < n → rn words (j + 1) ≤ mx words n := by
  intro n
  induction n with
  | zero => intro j h; omega
  | succ n ih =>
    intro j h
    have e : mx words (n + 1) = iMax (mx words n) (rn words (n + 1)) := rfl
    rw [e]
    by_cases c : j = n
    · rw [c]; unfold iMax; split <;> omega
    · have := ih j (by omega)
      unfold iMax; split <;> omega
theorem gf_e (words : Int → Int) : ∀ n : Nat, (mx words n = 0 ∧ gf words n = -1) ∨ (∃ m : Nat, m < n ∧ rn words (m + 1) = mx words n ∧ 0 < mx words n ∧ gf words n = (m : Int) + 1 - mx words n ∧ ∀ j : Nat, j < m → rn words (j + 1) < mx words n) := by
  intro n
  induction n with
  | zero => exact Or.inl ⟨rfl, rfl⟩
  | succ n ih =>
    have e1 : mx words (n + 1) = iMax (mx words n) (rn words (n + 1)) := rfl
    have e2 : gf words (n + 1) = if mx words n < rn words (n + 1) then (n : Int) + 1 - rn words (n + 1) else gf words n := rfl
    have h0 := mx_rg words n
    by_cases c : mx words n < rn words (n + 1)
    · have e3 : mx words (n + 1) = rn words (n + 1) := by rw [e1]; unfold iMax; split <;> omega
      rw [if_pos c] at e2
      refine Or.inr ⟨n, by omega, e3.symm, by omega, by rw [e2, e3], fun j hj => ?_⟩
      have := mx_ge words n j hj
      omega
    · have e3 : mx words (n + 1) = mx words n := by rw [e1]; unfold iMax; split <;> omega
      rw [if_neg c] at e2
      rw [e3, e2]
      rcases ih with h | ⟨m, m1, m2, m3, m4, m5⟩
      · exact Or.inl h
      · exact Or.inr ⟨m, by omega, m2, m3, m4, m5⟩
theorem X7_gapLength_e {sl : Int} {words depths : Int → Int} (hs1 : 0 ≤ sl) (hs2 : sl ≤ 600) : ∃ d2, s_X7_gapLength sl words depths = some (mx words sl.toNat, d2) ∧ ∀ q, 0 ≤ q → q < sl → d2 q = Dp words q := by
  obtain ⟨d2, m1, m2⟩ := measureDepths_e (words := words) (depths := depths) hs1 hs2
  obtain ⟨a, a1, a2⟩ := loopJ (fun fu (s : Int × Int) p => s_X7_gapLength_10 fu sl d2 s.1 s.2 p) (fun s => s.1) 0 sl hs1 (0, 0) (fun p s => s.1 = mx words p.toNat ∧ s.2 = rn words p.toNat) ⟨rfl, rfl⟩ (by
    intro fu ⟨s, r⟩ p g1 g2 ⟨g3, g4⟩
    have g3 : s = mx words p.toNat := g3
    have g4 : r = rn words p.toNat := g4
    have y1 := mx_rg words p.toNat
    have y2 := rn_rg words p.toNat
    have x2 := m2 p g1 g2
    have x3 := Dp_rg words p
    have x4 : ((p.toNat : Nat) : Int) = p := by omega
    have e0 : (p + 1).toNat = p.toNat + 1 := by omega
    have e1 : rn words (p + 1).toNat = if Dp words p = 0 then rn words p.toNat + 1 else 0 := by
      rw [e0]
      show (if Dp words ((p.toNat : Nat) : Int) = 0 then rn words p.toNat + 1 else 0) = _
      rw [x4]
    have e2 : mx words (p + 1).toNat = iMax (mx words p.toNat) (rn words (p + 1).toNat) := by rw [e0]; rfl
    by_cases c : Dp words p = 0
    · rw [if_pos c] at e1
      refine ⟨(iMax s (r + 1), r + 1), ⟨?_, ?_⟩, ?_⟩
      · show iMax s (r + 1) = _
        rw [e2, e1, g3, g4]
      · show r + 1 = _
        rw [e1, g4]
      · simp only [s_X7_gapLength_10_s]
        simp (disch := omega) only [cLt_t, cLt_f, cEq_t, cEq_f, cLtL_t, cLtL_f, cEqL_t, cEqL_f, cR_t, cRL_t, cZ_t, cN_t, cCp_t, rdA_t, ob_e, bd1_e, bd2_e, bd3_e, bd4_e, bd5_e, bd6_e, bd7_e, bd8_e, bd9_e, bd10_e, bd12_e, x2]
    · rw [if_neg c] at e1
      refine ⟨(iMax s 0, 0), ⟨?_, ?_⟩, ?_⟩
      · show iMax s 0 = _
        rw [e2, e1, g3]
      · show (0 : Int) = _
        rw [e1]
      · simp only [s_X7_gapLength_10_s]
        simp (disch := omega) only [cLt_t, cLt_f, cEq_t, cEq_f, cLtL_t, cLtL_f, cEqL_t, cEqL_f, cR_t, cRL_t, cZ_t, cN_t, cCp_t, rdA_t, ob_e, bd1_e, bd2_e, bd3_e, bd4_e, bd5_e, bd6_e, bd7_e, bd8_e, bd9_e, bd10_e, bd12_e, x2]) (by
    intro fu s _
    simp only [s_X7_gapLength_10_s]
    simp (disch := omega) only [cLt_t, cLt_f, cEq_t, cEq_f, cLtL_t, cLtL_f, cEqL_t, cEqL_f, cR_t, cRL_t, cZ_t, cN_t, cCp_t, rdA_t, ob_e, bd1_e, bd2_e, bd3_e, bd4_e, bd5_e, bd6_e, bd7_e, bd8_e, bd9_e, bd10_e, bd12_e]) FU (FU_lt (by omega))
  have a2 : s_X7_gapLength_10 FU sl d2 0 0 0 = some a.1 := a2
  refine ⟨d2, ?_, m2⟩
  have a1 : a.1 = mx words sl.toNat := a1.1
  unfold s_X7_gapLength
  simp (disch := omega) only [cLt_t, cLt_f, cEq_t, cEq_f, cLtL_t, cLtL_f, cEqL_t, cEqL_f, cR_t, cRL_t, cZ_t, cN_t, cCp_t, rdA_t, ob_e, bd1_e, bd2_e, bd3_e, bd4_e, bd5_e, bd6_e, bd7_e, bd8_e, bd9_e, bd10_e, bd12_e, m1, a2, a1]
theorem X7_gapStart_e {sl : Int} {words depths : Int → Int} (hs1 : 0 ≤ sl) (hs2 : sl ≤ 600) : ∃ d2, s_X7_gapStart sl words depths = some (gf words sl.toNat, d2) := by
  obtain ⟨d2, m1, m2⟩ := X7_gapLength_e (words := words) (depths := depths) hs1 hs2
  have hm := mx_rg words sl.toNat
  have q1 : mx words sl.toNat < 2147483648 := by omega
  have q2 : -2147483648 ≤ mx words sl.toNat := by omega
  have hg := gf_e words sl.toNat
  have A := loopR (fun fu (s : Int × Int) => s_X7_gapStart_9 fu sl d2 (mx words sl.toNat) s.1 s.2) (fun s => (sl - s.2).toNat) (fun s => 0 ≤ s.2 ∧ s.2 ≤ sl ∧ s.1 = rn words s.2.toNat ∧ ∀ j : Nat, (j : Int) < s.2 → ¬ (0 < rn words (j + 1) ∧ rn words (j + 1) = mx words sl.toNat)) (fun r => r = (gf words sl.toNat, d2)) ?_ FU (0, 0) ⟨Int.le_refl _, hs1, rfl, fun j hj => by have hj : (j : Int) < 0 := hj; omega⟩ (FU_lt (by show (sl - 0).toNat < _; omega))
  · obtain ⟨r, a1, a2⟩ := A
    have a1 : s_X7_gapStart_9 FU sl d2 (mx words sl.toNat) 0 0 = some r := a1
    refine ⟨d2, ?_⟩
    unfold s_X7_gapStart
    simp (disch := omega) only [cLt_t, cLt_f, cEq_t, cEq_f, cLtL_t, cLtL_f, cEqL_t, cEqL_f, cR_t, cRL_t, cZ_t, cN_t, cCp_t, rdA_t, ob_e, bd1_e, bd2_e, bd3_e, bd4_e, bd5_e, bd6_e, bd7_e, bd8_e, bd9_e, bd10_e, bd12_e, m1, a1, a2]
  · intro fu ⟨r, p⟩ ⟨g1, g2, g3, g4⟩
    have g1 : 0 ≤ p := g1
    have g2 : p ≤ sl := g2
    have g3 : r = rn words p.toNat := g3
    have g4 : ∀ j : Nat, (j : Int) < p → ¬ (0 < rn words (j + 1) ∧ rn words (j + 1) = mx words sl.toNat) := g4
    simp only [s_X7_gapStart_9_s]
    by_cases h : p < sl
    · have y2 := rn_rg words p.toNat
      have x2 := m2 p g1 h
      have x3 := Dp_rg words p
      have x4 : ((p.toNat : Nat) : Int) = p := by omega
      have e0 : (p + 1).toNat = p.toNat + 1 := by omega
      have e1 : rn words (p.toNat + 1) = if Dp words p = 0 then rn words p.toNat + 1 else 0 := by
        show (if Dp words ((p.toNat : Nat) : Int) = 0 then rn words p.toNat + 1 else 0) = _
        rw [x4]
      by_cases c : Dp words p = 0
      · rw [if_pos c] at e1
        by_cases c2 : r + 1 = mx words sl.toNat
        · left
          refine ⟨(p - (r + 1) + 1, d2), by simp (disch := omega) only [cLt_t, cLt_f, cEq_t, cEq_f, cLtL_t, cLtL_f, cEqL_t, cEqL_f, cR_t, cRL_t, cZ_t, cN_t, cCp_t, rdA_t, ob_e, bd1_e, bd2_e, bd3_e, bd4_e, bd5_e, bd6_e, bd7_e, bd8_e, bd9_e, bd10_e, bd12_e, x2], ?_⟩
          rcases hg with ⟨h1, h2⟩ | ⟨m, h1, h2, h3, h4, h5⟩
          · omega
          · have : m = p.toNat := by
              rcases Nat.lt_trichotomy m p.toNat with q | q | q
              · exact absurd ⟨by omega, h2⟩ (g4 m (by omega))
              · exact q
              · have := h5 p.toNat q
                omega
            rw [show p - (r + 1) + 1 = gf words sl.toNat by omega]
        · right
          refine ⟨(r + 1, p + 1), ⟨by show 0 ≤ p + 1; omega, by show p + 1 ≤ sl; omega, ?_, fun j hj => ?_⟩, by show (sl - (p + 1)).toNat < (sl - p).toNat; omega, by simp (disch := omega) only [cLt_t, cLt_f, cEq_t, cEq_f, cLtL_t, cLtL_f, cEqL_t, cEqL_f, cR_t, cRL_t, cZ_t, cN_t, cCp_t, rdA_t, ob_e, bd1_e, bd2_e, bd3_e, bd4_e, bd5_e, bd6_e, bd7_e, bd8_e, bd9_e, bd10_e, bd12_e, x2]⟩
          · show r + 1 = rn words (p + 1).toNat
            rw [e0, e1, g3]
          · have hj : (j : Int) < p + 1 := hj
            by_cases e : j = p.toNat
            · rw [e]; omega
            · exact g4 j (by omega)
      · rw [if_neg c] at e1
        right
        refine ⟨(0, p + 1), ⟨by show 0 ≤ p + 1; omega, by show p + 1 ≤ sl; omega, ?_, fun j hj => ?_⟩, by show (sl - (p + 1)).toNat < (sl - p).toNat; omega, by simp (disch := omega) only [cLt_t, cLt_f, cEq_t, cEq_f, cLtL_t, cLtL_f, cEqL_t, cEqL_f, cR_t, cRL_t, cZ_t, cN_t, cCp_t, rdA_t, ob_e, bd1_e, bd2_e, bd3_e, bd4_e, bd5_e, bd6_e, bd7_e, bd8_e, bd9_e, bd10_e, bd12_e, x2]⟩
        · show 0 = rn words (p + 1).toNat
          rw [e0, e1]
        · have hj : (j : Int) < p + 1 := hj
          by_cases e : j = p.toNat
          · rw [e]; omega
          · exact g4 j (by omega)
    · left
      refine ⟨(-1, d2), by simp (disch := omega) only [cLt_t, cLt_f, cEq_t, cEq_f, cLtL_t, cLtL_f, cEqL_t, cEqL_f, cR_t, cRL_t, cZ_t, cN_t, cCp_t, rdA_t, ob_e, bd1_e, bd2_e, bd3_e, bd4_e, bd5_e, bd6_e, bd7_e, bd8_e, bd9_e, bd10_e, bd12_e], ?_⟩
      rcases hg with ⟨h1, h2⟩ | ⟨m, h1, h2, h3, h4, h5⟩
      · rw [h2]
      · exact absurd ⟨by omega, h2⟩ (g4 m (by omega))
/-- the furthest end of the matches that begin before p -/
def ME (words : Int → Int) (p l e : Int) : Prop := (∀ q n, 0 ≤ q → (q < p ∨ (q = p ∧ n < l)) → ha words q n = 1 → q + n ≤ e) ∧ (e = 0 ∨ ∃ q n, 0 ≤ q ∧ q ≤ p ∧ ha words q n = 1 ∧ e = q + n)
theorem ha_n {words : Int → Int} {q n : Int} (h : ha words q n = 1) : 0 ≤ q ∧ q < 600 ∧ 1 ≤ n ∧ n ≤ 16 := by
  unfold ha at h
  by_cases z : (0 ≤ q ∧ q < 600 ∧ 1 ≤ n ∧ n ≤ 16) ∧ mt words q n ≠ -1
  · exact z.1
  · rw [if_neg z] at h; omega
theorem ME.rg {words : Int → Int} {p l e : Int} (h : ME words p l e) : 0 ≤ e ∧ e ≤ 700 := by
  rcases h.2 with z | ⟨q, n, a, b, c, d⟩
  · omega
  · have := ha_n c; omega
theorem X8_laysGap_e {gv on sl gfr gsz : Int} {len bytes wt live str words starts kat : Int → Int} (hK : KW gv len bytes wt live) (hd : DSJ on gv len bytes live) (o1 : 0 ≤ on) (o2 : on ≤ 1) (hs1 : 0 ≤ sl) (hs2 : sl ≤ 600) (hS : RB str 0 600) (hT : TBI on gv len bytes live str sl words) : ∃ s2 k2, s_X8_laysGap gv on sl gfr gsz len bytes live str starts kat = some (gf words sl.toNat, mx words sl.toNat, s2, k2) := by
  obtain ⟨s2, k2, l1, l2⟩ := X8_laysMatches_e (starts := starts) (kat := kat) hK hd o1 o2 hs1 hs2 hS hT
  obtain ⟨b, b1, b2⟩ := loopJ (fun fu (s : Int × Int × Int × Int) p => s_X8_laysGap_20 fu sl s.1 s.2.1 s2 s.2.2.1 s.2.2.2 p) (fun s => (s.1, s.2.1)) 0 sl hs1 (-1, 0, 0, 0) (fun p s => s.1 = gf words p.toNat ∧ s.2.1 = mx words p.toNat ∧ ME words p 1 s.2.2.1 ∧ s.2.2.2 = p - rn words p.toNat) ⟨rfl, rfl, ⟨fun q n a b c => by have := ha_n c; omega, Or.inl rfl⟩, by show (0 : Int) = 0 - 0; omega⟩ (by
    intro fu ⟨u, v, e, f⟩ p g1 g2 ⟨g3, g4, g5, g6⟩
    have g3 : u = gf words p.toNat := g3
    have g4 : v = mx words p.toNat := g4
    have g5 : ME words p 1 e := g5
    have g6 : f = p - rn words p.toNat := g6
    have y1 := mx_rg words p.toNat
    have y2 := rn_rg words p.toNat
    have x4 : ((p.toNat : Nat) : Int) = p := by omega
    have e0 : (p + 1).toNat = p.toNat + 1 := by omega
    have e1 : rn words (p + 1).toNat = if Dp words p = 0 then rn words p.toNat + 1 else 0 := by
      rw [e0]
      show (if Dp words ((p.toNat : Nat) : Int) = 0 then rn words p.toNat + 1 else 0) = _
      rw [x4]
    have e2 : mx words (p + 1).toNat = iMax (mx words p.toNat) (rn words (p + 1).toNat) := by rw [e0]; rfl
    have e3 : gf words (p + 1).toNat = if mx words p.toNat < rn words (p + 1).toNat then p + 1 - rn words (p + 1).toNat else gf words p.toNat := by
      rw [e0]
      show (if mx words p.toNat < rn words (p.toNat + 1) then ((p.toNat : Nat) : Int) + 1 - rn words (p.toNat + 1) else gf words p.toNat) = _
      rw [x4]
    obtain ⟨c, c1, c2⟩ := loopJ (fun fu (t : Int) l => s_X8_laysGap_31 fu s2 t f p l) (fun s => s) 1 17 (by omega) e (fun l t => ME words p l t) g5 (by
      intro fu t l z1 z2 z3
      have hr := z3.rg
      have w1 := X8_hasAt_e l2 hs2 g1 g2 z1 (show l ≤ 16 by omega)
      have w2 := ha_rg words p l
      by_cases c : ha words p l = 0
      · refine ⟨t, ⟨fun q n a b d => ?_, z3.2⟩, ?_⟩
        · by_cases k : q = p ∧ n = l
          · rw [k.1, k.2] at d; omega
          · exact z3.1 q n a (by omega) d
        · simp only [s_X8_laysGap_31_s]
          simp (disch := omega) only [cLt_t, cLt_f, cEq_t, cEq_f, cLtL_t, cLtL_f, cEqL_t, cEqL_f, cR_t, cRL_t, cZ_t, cN_t, cCp_t, rdA_t, ob_e, bd1_e, bd2_e, bd3_e, bd4_e, bd5_e, bd6_e, bd7_e, bd8_e, bd9_e, bd10_e, bd12_e, w1]
      · by_cases c3 : t < p + l
        · refine ⟨p + l, ⟨fun q n a b d => ?_, Or.inr ⟨p, l, g1, Int.le_refl _, by omega, rfl⟩⟩, ?_⟩
          · by_cases k : q = p ∧ n = l
            · omega
            · have := z3.1 q n a (by omega) d; omega
          · simp only [s_X8_laysGap_31_s]
            simp (disch := omega) only [cLt_t, cLt_f, cEq_t, cEq_f, cLtL_t, cLtL_f, cEqL_t, cEqL_f, cR_t, cRL_t, cZ_t, cN_t, cCp_t, rdA_t, ob_e, bd1_e, bd2_e, bd3_e, bd4_e, bd5_e, bd6_e, bd7_e, bd8_e, bd9_e, bd10_e, bd12_e, w1]
        · refine ⟨t, ⟨fun q n a b d => ?_, z3.2⟩, ?_⟩
          · by_cases k : q = p ∧ n = l
            · omega
            · exact z3.1 q n a (by omega) d
          · simp only [s_X8_laysGap_31_s]
            simp (disch := omega) only [cLt_t, cLt_f, cEq_t, cEq_f, cLtL_t, cLtL_f, cEqL_t, cEqL_f, cR_t, cRL_t, cZ_t, cN_t, cCp_t, rdA_t, ob_e, bd1_e, bd2_e, bd3_e, bd4_e, bd5_e, bd6_e, bd7_e, bd8_e, bd9_e, bd10_e, bd12_e, w1]) (by
      intro fu s _
      simp only [s_X8_laysGap_31_s]
      simp (disch := omega) only [cLt_t, cLt_f, cEq_t, cEq_f, cLtL_t, cLtL_f, cEqL_t, cEqL_f, cR_t, cRL_t, cZ_t, cN_t, cCp_t, rdA_t, ob_e, bd1_e, bd2_e, bd3_e, bd4_e, bd5_e, bd6_e, bd7_e, bd8_e, bd9_e, bd10_e, bd12_e]) FU (FU_lt (by omega))
    have c2 : s_X8_laysGap_31 FU s2 e f p 1 = some c := c2
    have c1 : ME words p 17 c := c1
    have hr := c1.rg
    have hc : p < c ↔ Dp words p ≠ 0 := by
      rw [cov_iff]
      constructor
      · intro h
        rcases c1.2 with z | ⟨q, n, a, b, d, k⟩
        · omega
        · exact ⟨q, n, a, b, by omega, d⟩
      · rintro ⟨q, n, a, b, d, k⟩
        have := c1.1 q n a (by have := ha_n k; omega) k
        omega
    have c3 : ME words (p + 1) 1 c := ⟨fun q n a b d => c1.1 q n a (by have := ha_n d; omega) d, by
      rcases c1.2 with z | ⟨q, n, a, b, d, k⟩
      · exact Or.inl z
      · exact Or.inr ⟨q, n, a, by omega, d, k⟩⟩
    by_cases k : Dp words p = 0
    · have k2 : ¬ p < c := fun z => hc.mp z k
      rw [if_pos k] at e1
      by_cases k3 : v < p + 1 - f
      · refine ⟨(f, p + 1 - f, c, f), ⟨?_, ?_, c3, ?_⟩, ?_⟩
        · show f = _
          rw [e3, if_pos (by omega)]; omega
        · show p + 1 - f = _
          rw [e2, e1]; unfold iMax; split <;> omega
        · show f = p + 1 - _
          omega
        · simp only [s_X8_laysGap_20_s]
          simp (disch := omega) only [cLt_t, cLt_f, cEq_t, cEq_f, cLtL_t, cLtL_f, cEqL_t, cEqL_f, cR_t, cRL_t, cZ_t, cN_t, cCp_t, rdA_t, ob_e, bd1_e, bd2_e, bd3_e, bd4_e, bd5_e, bd6_e, bd7_e, bd8_e, bd9_e, bd10_e, bd12_e, c2]
      · refine ⟨(u, v, c, f), ⟨?_, ?_, c3, ?_⟩, ?_⟩
        · show u = _
          rw [e3, if_neg (by omega), g3]
        · show v = _
          rw [e2, e1]; unfold iMax; split <;> omega
        · show f = p + 1 - _
          omega
        · simp only [s_X8_laysGap_20_s]
          simp (disch := omega) only [cLt_t, cLt_f, cEq_t, cEq_f, cLtL_t, cLtL_f, cEqL_t, cEqL_f, cR_t, cRL_t, cZ_t, cN_t, cCp_t, rdA_t, ob_e, bd1_e, bd2_e, bd3_e, bd4_e, bd5_e, bd6_e, bd7_e, bd8_e, bd9_e, bd10_e, bd12_e, c2]
    · have k2 : p < c := hc.mpr k
      rw [if_neg k] at e1
      refine ⟨(u, v, c, p + 1), ⟨?_, ?_, c3, ?_⟩, ?_⟩
      · show u = _
        rw [e3, if_neg (by omega), g3]
      · show v = _
        rw [e2, e1]; unfold iMax; split <;> omega
      · show p + 1 = p + 1 - _
        omega
      · simp only [s_X8_laysGap_20_s]
        simp (disch := omega) only [cLt_t, cLt_f, cEq_t, cEq_f, cLtL_t, cLtL_f, cEqL_t, cEqL_f, cR_t, cRL_t, cZ_t, cN_t, cCp_t, rdA_t, ob_e, bd1_e, bd2_e, bd3_e, bd4_e, bd5_e, bd6_e, bd7_e, bd8_e, bd9_e, bd10_e, bd12_e, c2]) (by
    intro fu s _
    simp only [s_X8_laysGap_20_s]
    simp (disch := omega) only [cLt_t, cLt_f, cEq_t, cEq_f, cLtL_t, cLtL_f, cEqL_t, cEqL_f, cR_t, cRL_t, cZ_t, cN_t, cCp_t, rdA_t, ob_e, bd1_e, bd2_e, bd3_e, bd4_e, bd5_e, bd6_e, bd7_e, bd8_e, bd9_e, bd10_e, bd12_e]) FU (FU_lt (by omega))
  have b2 : s_X8_laysGap_20 FU sl (-1) 0 s2 0 0 0 = some (b.1, b.2.1) := b2
  have h1 : b.1 = gf words sl.toNat := b1.1
  have h2 : b.2.1 = mx words sl.toNat := b1.2.1
  refine ⟨s2, k2, ?_⟩
  unfold s_X8_laysGap
  simp (disch := omega) only [cLt_t, cLt_f, cEq_t, cEq_f, cLtL_t, cLtL_f, cEqL_t, cEqL_f, cR_t, cRL_t, cZ_t, cN_t, cCp_t, rdA_t, ob_e, bd1_e, bd2_e, bd3_e, bd4_e, bd5_e, bd6_e, bd7_e, bd8_e, bd9_e, bd10_e, bd12_e, l1, b2, h1, h2]
theorem op_gapLength {gv on sl th gfr gsz : Int} {len bytes wt live str words starts kat depths : Int → Int} (hK : KW gv len bytes wt live) (hd : DSJ on gv len bytes live) (o1 : 0 ≤ on) (o2 : on ≤ 1) (hs1 : 0 ≤ sl) (hs2 : sl ≤ 600) (hS : RB str 0 600) (hT : TBI on gv len bytes live str sl words) : ∃ r d2 a2 b2 s2 k2, s_X7_gapLength sl words depths = some (r, d2) ∧ s_X8_gapLength th gv on sl gfr gsz len bytes live str starts kat = some (r, 0, a2, b2, s2, k2) := by
  obtain ⟨d2, h1, -⟩ := X7_gapLength_e (words := words) (depths := depths) hs1 hs2
  obtain ⟨s2, k2, h2⟩ := X8_laysGap_e (gfr := gfr) (gsz := gsz) (starts := starts) (kat := kat) hK hd o1 o2 hs1 hs2 hS hT
  refine ⟨mx words sl.toNat, d2, gf words sl.toNat, mx words sl.toNat, s2, k2, h1, ?_⟩
  unfold s_X8_gapLength
  simp (disch := omega) only [cLt_t, cLt_f, cEq_t, cEq_f, cLtL_t, cLtL_f, cEqL_t, cEqL_f, cR_t, cRL_t, cZ_t, cN_t, cCp_t, rdA_t, ob_e, bd1_e, bd2_e, bd3_e, bd4_e, bd5_e, bd6_e, bd7_e, bd8_e, bd9_e, bd10_e, bd12_e, h2]
theorem op_gapStart {gv on sl th gfr gsz : Int} {len bytes wt live str words starts kat depths : Int → Int} (hK : KW gv len bytes wt live) (hd : DSJ on gv len bytes live) (o1 : 0 ≤ on) (o2 : on ≤ 1) (hs1 : 0 ≤ sl) (hs2 : sl ≤ 600) (hS : RB str 0 600) (hT : TBI on gv len bytes live str sl words) : ∃ r d2 a2 b2 s2 k2, s_X7_gapStart sl words depths = some (r, d2) ∧ s_X8_gapStart th gv on sl gfr gsz len bytes live str starts kat = some (r, 0, a2, b2, s2, k2) := by
  obtain ⟨d2, h1⟩ := X7_gapStart_e (words := words) (depths := depths) hs1 hs2
  obtain ⟨s2, k2, h2⟩ := X8_laysGap_e (gfr := gfr) (gsz := gsz) (starts := starts) (kat := kat) hK hd o1 o2 hs1 hs2 hS hT
  refine ⟨gf words sl.toNat, d2, gf words sl.toNat, mx words sl.toNat, s2, k2, h1, ?_⟩
  unfold s_X8_gapStart
  simp (disch := omega) only [cLt_t, cLt_f, cEq_t, cEq_f, cLtL_t, cLtL_f, cEqL_t, cEqL_f, cR_t, cRL_t, cZ_t, cN_t, cCp_t, rdA_t, ob_e, bd1_e, bd2_e, bd3_e, bd4_e, bd5_e, bd6_e, bd7_e, bd8_e, bd9_e, bd10_e, bd12_e, h2]
