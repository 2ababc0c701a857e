/-! ===== choosing matches from the left; the longest ===== -/
theorem X4_add6_e {size v x : Int} {fP fN : Int → Int} (h1 : 0 ≤ size) (h2 : size < 600) : s_X4_add 600 size fP fN v x = some (size + 1, upA fP size v, upA fN size x) := by
  unfold s_X4_add
  simp (disch := omega) only [cLt_t, cLt_f, cEq_t, cEq_f, cLtL_t, cLtL_f, cEqL_t, cEqL_f, cR_t, cRL_t, cZ_t, cN_t, cCp_t, rdA_t, ob_e, bd1_e, bd2_e, bd3_e, bd4_e, bd5_e, bd6_e, bd7_e, bd8_e, bd9_e, bd10_e, bd12_e]
theorem choose_both {sl gv : Int} {len tk : Int → Int} {L : Nat → Int → (Int → Int) → (Int → Int) → Int → Int → Option (Int × (Int → Int) × (Int → Int))} (hs1 : 0 ≤ sl) (hs2 : sl ≤ 600) (hg : gv ≤ 120)
    (ht : ∀ p, 0 ≤ p → p < sl → tk p = -1 ∨ (0 ≤ tk p ∧ tk p < gv ∧ 1 ≤ len (tk p) ∧ len (tk p) ≤ 16 ∧ p + len (tk p) ≤ sl))
    (hL1 : ∀ (fu : Nat) (size : Int) (pos num : Int → Int) (free p : Int), 0 ≤ p → p < sl → 0 ≤ free → free ≤ sl → p < free → L (fu + 1) size pos num free p = L fu size pos num free (p + 1))
    (hL2 : ∀ (fu : Nat) (size : Int) (pos num : Int → Int) (free p : Int), 0 ≤ p → p < sl → 0 ≤ free → free ≤ p → tk p = -1 → L (fu + 1) size pos num free p = L fu size pos num free (p + 1))
    (hL3 : ∀ (fu : Nat) (size : Int) (pos num : Int → Int) (free p : Int), 0 ≤ p → p < sl → 0 ≤ free → free ≤ p → tk p ≠ -1 → 0 ≤ size → size < 600 → L (fu + 1) size pos num free p = L fu (size + 1) (upA pos size p) (upA num size (tk p)) (p + len (tk p)) (p + 1))
    (hL4 : ∀ (fu : Nat) (size : Int) (pos num : Int → Int) (free : Int), 0 ≤ free → free ≤ sl → L (fu + 1) size pos num free sl = some (size, pos, num)) :
    ∀ (n : Nat) (p free size : Int) (pos num tak : Int → Int) (f1 f2 : Nat), p + n = sl → 0 ≤ p → 0 ≤ free → free ≤ p → 0 ≤ size → size ≤ p → (∀ i, 0 ≤ i → i < size → 0 ≤ pos i ∧ pos i < sl ∧ tak i = pos i ∧ num i = tk (pos i) ∧ tk (pos i) ≠ -1) → n < f1 → n < f2 →
      ∃ size2 pos2 num2 tak2, L f1 size pos num free p = some (size2, pos2, num2) ∧ s_X8_laysTaken_7 f2 sl size len tk tak p = some (size2, tak2) ∧ 0 ≤ size2 ∧ size2 ≤ 600 ∧ (∀ i, 0 ≤ i → i < size2 → 0 ≤ pos2 i ∧ pos2 i < sl ∧ tak2 i = pos2 i ∧ num2 i = tk (pos2 i) ∧ tk (pos2 i) ≠ -1) ∧
      ∀ f F : Int → Int, F sl = 0 → (∀ q, 0 ≤ q → q < sl → tk q = -1 → F q = F (q + 1)) → (∀ q, 0 ≤ q → q < sl → tk q ≠ -1 → F q = F (q + len (tk q)) + f (tk q)) → sm (fun i => f (num2 (i : Int))) size2.toNat = sm (fun i => f (num (i : Int))) size.toNat + F p := by
  have skip : ∀ (k fu : Nat) (size : Int) (pos num : Int → Int) (free p : Int), 0 ≤ p → p + k = free → free ≤ sl → L (fu + k) size pos num free p = L fu size pos num free free := by
    intro k
    induction k with
    | zero => intro fu size pos num free p h1 h2 h3; rw [show p = free by omega]; rfl
    | succ k ih =>
      intro fu size pos num free p h1 h2 h3
      rw [show fu + (k + 1) = fu + k + 1 by omega, hL1 (fu + k) size pos num free p h1 (by omega) (by omega) h3 (by omega)]
      exact ih fu size pos num free (p + 1) (by omega) (by omega) h3
  intro n
  induction n using Nat.strongRecOn with
  | ind n ih =>
    intro p free size pos num tak f1 f2 hp h0 hf0 hf hz1 hz2 hI hn1 hn2
    obtain ⟨g2, rfl⟩ : ∃ f, f2 = f + 1 := ⟨f2 - 1, by omega⟩
    by_cases c : p < sl
    · obtain ⟨g1, rfl⟩ : ∃ f, f1 = f + 1 := ⟨f1 - 1, by omega⟩
      by_cases ck : tk p = -1
      · obtain ⟨size2, pos2, num2, tak2, a1, a2, a3, a4, a5, a6⟩ := ih (n - 1) (by omega) (p + 1) free size pos num tak g1 g2 (by omega) (by omega) hf0 (by omega) hz1 (by omega) hI (by omega) (by omega)
        refine ⟨size2, pos2, num2, tak2, by rw [hL2 g1 size pos num free p h0 c hf0 hf ck]; exact a1, ?_, a3, a4, a5, fun f F x y z => ?_⟩
        · simp only [s_X8_laysTaken_7_s]
          simp (disch := omega) only [cLt_t, cLt_f, cEq_t, cEq_f, cLtL_t, cLtL_f, cEqL_t, cEqL_f, cR_t, cRL_t, cZ_t, cN_t, cCp_t, rdA_t, ob_e, bd1_e, bd2_e, bd3_e, bd4_e, bd5_e, bd6_e, bd7_e, bd8_e, bd9_e, bd10_e, bd12_e, ck, a2]
        · rw [a6 f F x y z, y p h0 c ck]
      · have hk := ht p h0 c
        have hk : 0 ≤ tk p ∧ tk p < gv ∧ 1 ≤ len (tk p) ∧ len (tk p) ≤ 16 ∧ p + len (tk p) ≤ sl := by
          rcases hk with e | e
          · exact absurd e ck
          · exact e
        have hI2 : ∀ i, 0 ≤ i → i < size + 1 → 0 ≤ upA pos size p i ∧ upA pos size p i < sl ∧ upA tak size p i = upA pos size p i ∧ upA num size (tk p) i = tk (upA pos size p i) ∧ tk (upA pos size p i) ≠ -1 := by
          intro i a b
          by_cases e : i = size
          · rw [e, upA_s, upA_s, upA_s]
            exact ⟨h0, c, rfl, rfl, ck⟩
          · rw [upA_n e, upA_n e, upA_n e]
            exact hI i a (by omega)
        obtain ⟨size2, pos2, num2, tak2, a1, a2, a3, a4, a5, a6⟩ := ih (n - (len (tk p)).toNat) (by omega) (p + len (tk p)) (p + len (tk p)) (size + 1) (upA pos size p) (upA num size (tk p)) (upA tak size p) (g1 - ((len (tk p)).toNat - 1)) g2 (by omega) (by omega) (by omega) (by omega) (by omega) (by omega) hI2 (by omega) (by omega)
        refine ⟨size2, pos2, num2, tak2, ?_, ?_, a3, a4, a5, fun f F x y z => ?_⟩
        · rw [hL3 g1 size pos num free p h0 c hf0 hf ck hz1 (by omega)]
          have := skip ((len (tk p)).toNat - 1) (g1 - ((len (tk p)).toNat - 1)) (size + 1) (upA pos size p) (upA num size (tk p)) (p + len (tk p)) (p + 1) (by omega) (by omega) (by omega)
          rw [show g1 - ((len (tk p)).toNat - 1) + ((len (tk p)).toNat - 1) = g1 by omega] at this
          rw [this]
          exact a1
        · simp only [s_X8_laysTaken_7_s]
          have e2 := hk.1
          have e3 := hk.2.1
          simp (disch := omega) only [cLt_t, cLt_f, cEq_t, cEq_f, cLtL_t, cLtL_f, cEqL_t, cEqL_f, cR_t, cRL_t, cZ_t, cN_t, cCp_t, rdA_t, ob_e, bd1_e, bd2_e, bd3_e, bd4_e, bd5_e, bd6_e, bd7_e, bd8_e, bd9_e, bd10_e, bd12_e, a2]
        · rw [a6 f F x y z, z p h0 c ck, show (size + 1).toNat = size.toNat + 1 by omega, sm_succ, show ((size.toNat : Nat) : Int) = size by omega, upA_s]
          rw [sm_c (f := fun i => f (upA num size (tk p) (i : Int))) (g := fun i => f (num (i : Int))) (fun i hi => by rw [upA_n (by omega)])]
          omega
    · have e : p = sl := by omega
      subst e
      obtain ⟨g1, rfl⟩ : ∃ f, f1 = f + 1 := ⟨f1 - 1, by omega⟩
      refine ⟨size, pos, num, tak, hL4 g1 size pos num free hf0 hf, ?_, hz1, by omega, hI, fun f F x y z => by rw [x]; omega⟩
      simp only [s_X8_laysTaken_7_s]
      simp (disch := omega) only [cLt_t, cLt_f, cEq_t, cEq_f, cLtL_t, cLtL_f, cEqL_t, cEqL_f, cR_t, cRL_t, cZ_t, cN_t, cCp_t, rdA_t, ob_e, bd1_e, bd2_e, bd3_e, bd4_e, bd5_e, bd6_e, bd7_e, bd8_e, bd9_e, bd10_e, bd12_e]
/-- what the model takes at p: the longest, or nothing -/
def TL (sl : Int) (words tk : Int → Int) : Prop := ∀ p, 0 ≤ p → p < sl → (lf words p = 0 ∧ tk p = -1) ∨ (lf words p ≠ 0 ∧ tk p ≠ -1 ∧ tk p = mt words p (lf words p))
theorem X8_laysLongest_e {gv on sl : Int} {len bytes wt live str words starts kat takes : Int → Int} (hK : KW gv len bytes wt live) (hd : DSJ on gv len bytes live) (o1 : 0 ≤ on) (o2 : on ≤ 1) (hs1 : 0 ≤ sl) (hs2 : sl ≤ 600) (hS : RB str 0 600) (hT : TBI on gv len bytes live str sl words) : ∃ s2 k2 t2, s_X8_laysLongest gv on sl len bytes live str starts kat takes = some (s2, k2, t2) ∧ TL sl words t2 := by
  obtain ⟨s2, k2, l1, l2⟩ := X8_laysMatches_e (starts := starts) (kat := kat) hK hd o1 o2 hs1 hs2 hS hT
  obtain ⟨b, b1, b2⟩ := loopJ (fun fu (s : Int → Int) p => s_X8_laysLongest_6 fu sl s2 k2 s p) (fun s => s) 0 sl hs1 takes (fun p s => ∀ q, 0 ≤ q → q < p → (lf words q = 0 ∧ s q = -1) ∨ (lf words q ≠ 0 ∧ s q ≠ -1 ∧ s q = mt words q (lf words q))) (fun q a b => by omega) (by
    intro fu s p g1 g2 g3
    have g3 : ∀ q, 0 ≤ q → q < p → (lf words q = 0 ∧ s q = -1) ∨ (lf words q ≠ 0 ∧ s q ≠ -1 ∧ s q = mt words q (lf words q)) := g3
    obtain ⟨c, c1, c2⟩ := loopJ (fun fu (t : Int → Int) l => s_X8_laysLongest_23 fu s2 k2 t p l) (fun s => s) 1 17 (by omega) (upA s p (-1)) (fun l t => (∀ q, q ≠ p → t q = s q) ∧ ((lfN words p (l - 1).toNat = 0 ∧ t p = -1) ∨ (lfN words p (l - 1).toNat ≠ 0 ∧ t p ≠ -1 ∧ t p = mt words p (lfN words p (l - 1).toNat)))) ⟨fun q a => upA_n a, Or.inl ⟨rfl, upA_s⟩⟩ (by
      intro fu t l z1 z2 ⟨z3, z4⟩
      have w1 := X8_hasAt_e l2 hs2 g1 g2 z1 (show l ≤ 16 by omega)
      have w2 := ha_rg words p l
      have w3 : (((l - 1).toNat : Nat) : Int) + 1 = l := by omega
      have w4 : lfN words p (l + 1 - 1).toNat = if ha words p l = 0 then lfN words p (l - 1).toNat else l := by
        rw [show (l + 1 - 1).toNat = (l - 1).toNat + 1 by omega]
        show (if ha words p ((((l - 1).toNat : Nat) : Int) + 1) = 0 then lfN words p (l - 1).toNat else (((l - 1).toNat : Nat) : Int) + 1) = _
        rw [w3]
      by_cases c : ha words p l = 0
      · rw [if_pos c] at w4
        refine ⟨t, ⟨z3, by rw [w4]; exact z4⟩, ?_⟩
        simp only [s_X8_laysLongest_23_s]
        simp (disch := omega) only [cLt_t, cLt_f, cEq_t, cEq_f, cLtL_t, cLtL_f, cEqL_t, cEqL_f, cR_t, cRL_t, cZ_t, cN_t, cCp_t, rdA_t, ob_e, bd1_e, bd2_e, bd3_e, bd4_e, bd5_e, bd6_e, bd7_e, bd8_e, bd9_e, bd10_e, bd12_e, w1]
      · rw [if_neg c] at w4
        have hm := (l2 p l g1 g2 z1 (by omega)).2
        have hm2 : mt words p l ≠ -1 := by
          intro e
          apply c
          unfold ha
          exact if_neg (fun q => q.2 e)
        refine ⟨upA t p (k2 (17 * p + l)), ⟨fun q a => by rw [upA_n a]; exact z3 q a, Or.inr ?_⟩, ?_⟩
        · rw [w4, upA_s, hm hm2]
          exact ⟨by omega, hm2, rfl⟩
        · simp only [s_X8_laysLongest_23_s]
          simp (disch := omega) only [cLt_t, cLt_f, cEq_t, cEq_f, cLtL_t, cLtL_f, cEqL_t, cEqL_f, cR_t, cRL_t, cZ_t, cN_t, cCp_t, rdA_t, ob_e, bd1_e, bd2_e, bd3_e, bd4_e, bd5_e, bd6_e, bd7_e, bd8_e, bd9_e, bd10_e, bd12_e, w1]) (by
      intro fu s _
      simp only [s_X8_laysLongest_23_s]
      simp (disch := omega) only [cLt_t, cLt_f, cEq_t, cEq_f, cLtL_t, cLtL_f, cEqL_t, cEqL_f, cR_t, cRL_t, cZ_t, cN_t, cCp_t, rdA_t, ob_e, bd1_e, bd2_e, bd3_e, bd4_e, bd5_e, bd6_e, bd7_e, bd8_e, bd9_e, bd10_e, bd12_e]) FU (FU_lt (by omega))
    have c2 : s_X8_laysLongest_23 FU s2 k2 (upA s p (-1)) p 1 = some c := c2
    refine ⟨c, fun q a d => ?_, ?_⟩
    · by_cases e : q = p
      · rw [e]; exact c1.2
      · rw [c1.1 q e]; exact g3 q a (by omega)
    · simp only [s_X8_laysLongest_6_s]
      simp (disch := omega) only [cLt_t, cLt_f, cEq_t, cEq_f, cLtL_t, cLtL_f, cEqL_t, cEqL_f, cR_t, cRL_t, cZ_t, cN_t, cCp_t, rdA_t, ob_e, bd1_e, bd2_e, bd3_e, bd4_e, bd5_e, bd6_e, bd7_e, bd8_e, bd9_e, bd10_e, bd12_e, c2]) (by
    intro fu s _
    simp only [s_X8_laysLongest_6_s]
    simp (disch := omega) only [cLt_t, cLt_f, cEq_t, cEq_f, cLtL_t, cLtL_f, cEqL_t, cEqL_f, cR_t, cRL_t, cZ_t, cN_t, cCp_t, rdA_t, ob_e, bd1_e, bd2_e, bd3_e, bd4_e, bd5_e, bd6_e, bd7_e, bd8_e, bd9_e, bd10_e, bd12_e]) FU (FU_lt (by omega))
  have b2 : s_X8_laysLongest_6 FU sl s2 k2 takes 0 = some b := b2
  refine ⟨s2, k2, b, ?_, b1⟩
  unfold s_X8_laysLongest
  simp (disch := omega) only [cLt_t, cLt_f, cEq_t, cEq_f, cLtL_t, cLtL_f, cEqL_t, cEqL_f, cR_t, cRL_t, cZ_t, cN_t, cCp_t, rdA_t, ob_e, bd1_e, bd2_e, bd3_e, bd4_e, bd5_e, bd6_e, bd7_e, bd8_e, bd9_e, bd10_e, bd12_e, l1, b2]
theorem mt_live {gv on sl p l : Int} {len bytes live str words : Int → Int} (hT : TBI on gv len bytes live str sl words) (h : ha words p l ≠ 0) : LV gv live (mt words p l) ∧ len (mt words p l) = l ∧ mt words p l ≠ -1 := by
  unfold ha at h
  by_cases c : (0 ≤ p ∧ p < 600 ∧ 1 ≤ l ∧ l ≤ 16) ∧ mt words p l ≠ -1
  · rcases hT p l c.1.1 c.1.2.1 c.1.2.2.1 c.1.2.2.2 with ⟨q, -⟩ | ⟨-, k, q, m⟩
    · exact absurd q c.2
    · exact ⟨k, q, c.2⟩
  · rw [if_neg c] at h; exact absurd rfl h
/-- what both sides have when they have chosen -/
def CS (sl size : Int) (pos num tak tk : Int → Int) : Prop := 0 ≤ size ∧ size ≤ 600 ∧ ∀ i, 0 ≤ i → i < size → 0 ≤ pos i ∧ pos i < sl ∧ tak i = pos i ∧ num i = tk (pos i) ∧ tk (pos i) ≠ -1
theorem longest_both {gv on sl sz tm : Int} {len bytes wt live str words starts kat takes pos num tak : Int → Int} (hK : KW gv len bytes wt live) (hd : DSJ on gv len bytes live) (o1 : 0 ≤ on) (o2 : on ≤ 1) (hs1 : 0 ≤ sl) (hs2 : sl ≤ 600) (hS : RB str 0 600) (hT : TBI on gv len bytes live str sl words) : ∃ s2 k2 t2 size2 pos2 num2 tak2, s_X8_laysLongest gv on sl len bytes live str starts kat takes = some (s2, k2, t2) ∧ s_X7_chooseLongest sl words sz pos num = some (size2, pos2, num2) ∧ s_X8_laysTaken sl tm len t2 tak = some (size2, tak2) ∧ CS sl size2 pos2 num2 tak2 t2 := by
  obtain ⟨s2, k2, t2, h1, h2⟩ := X8_laysLongest_e (starts := starts) (kat := kat) (takes := takes) hK hd o1 o2 hs1 hs2 hS hT
  have hg := hK.2.1
  have hl : ∀ p, 0 ≤ p → p < sl → t2 p ≠ -1 → ha words p (lf words p) = 1 ∧ LV gv live (t2 p) ∧ len (t2 p) = lf words p ∧ t2 p = mt words p (lf words p) ∧ p + lf words p ≤ sl := by
    intro p a b c
    rcases h2 p a b with ⟨q1, q2⟩ | ⟨q1, q2, q3⟩
    · exact absurd q2 c
    · have q4 := lf_e words p
      have q5 : ha words p (lf words p) = 1 := by rcases q4.2.2.2 with z | z <;> omega
      have q6 := mt_live hT (p := p) (l := lf words p) (by omega)
      have q7 := ha_end hT (p := p) (l := lf words p) (by omega)
      rw [← q3] at q6
      exact ⟨q5, q6.1, q6.2.1, q3, q7.2.2.2⟩
  have ht : ∀ p, 0 ≤ p → p < sl → t2 p = -1 ∨ (0 ≤ t2 p ∧ t2 p < gv ∧ 1 ≤ len (t2 p) ∧ len (t2 p) ≤ 16 ∧ p + len (t2 p) ≤ sl) := by
    intro p a b
    by_cases c : t2 p = -1
    · exact Or.inl c
    · have q := hl p a b c
      have q2 := hK.2.2 (t2 p) q.2.1.1 q.2.1.2.1
      exact Or.inr ⟨q.2.1.1, q.2.1.2.1, q2.1, q2.2.1, by omega⟩
  obtain ⟨size2, pos2, num2, tak2, a1, a2, a3, a4, a5, a6⟩ := choose_both (L := fun fu size pos num free p => s_X7_chooseLongest_11 fu sl words size pos num free p) hs1 hs2 hg ht (by
    intro fu size pos num free p x1 x2 x3 x4 x5
    simp only [s_X7_chooseLongest_11_s]
    simp (disch := omega) only [cLt_t, cLt_f, cEq_t, cEq_f, cLtL_t, cLtL_f, cEqL_t, cEqL_f, cR_t, cRL_t, cZ_t, cN_t, cCp_t, rdA_t, ob_e, bd1_e, bd2_e, bd3_e, bd4_e, bd5_e, bd6_e, bd7_e, bd8_e, bd9_e, bd10_e, bd12_e]) (by
    intro fu size pos num free p x1 x2 x3 x4 x5
    have y1 := X5_longestFrom_e (words := words) (p := p) x1 (by omega)
    have y2 : lf words p = 0 := by rcases h2 p x1 x2 with ⟨q1, q2⟩ | ⟨q1, q2, q3⟩ <;> omega
    simp only [s_X7_chooseLongest_11_s]
    simp (disch := omega) only [cLt_t, cLt_f, cEq_t, cEq_f, cLtL_t, cLtL_f, cEqL_t, cEqL_f, cR_t, cRL_t, cZ_t, cN_t, cCp_t, rdA_t, ob_e, bd1_e, bd2_e, bd3_e, bd4_e, bd5_e, bd6_e, bd7_e, bd8_e, bd9_e, bd10_e, bd12_e, y1]) (by
    intro fu size pos num free p x1 x2 x3 x4 x5 x6 x7
    have y1 := X5_longestFrom_e (words := words) (p := p) x1 (by omega)
    have y2 := hl p x1 x2 x5
    have y3 := lf_e words p
    have y4 : 0 < lf words p := by rcases h2 p x1 x2 with ⟨q1, q2⟩ | ⟨q1, q2, q3⟩ <;> omega
    have y5 : s_X5_at words p (lf words p) = some (t2 p) := by
      rw [X5_at_e (by omega) (by omega) (by omega) (by omega), if_pos (by omega), y2.2.2.2.1]
    have y6 := X4_add6_e (size := size) (v := p) (x := t2 p) (fP := pos) (fN := num) x6 x7
    simp only [s_X7_chooseLongest_11_s]
    simp (disch := omega) only [cLt_t, cLt_f, cEq_t, cEq_f, cLtL_t, cLtL_f, cEqL_t, cEqL_f, cR_t, cRL_t, cZ_t, cN_t, cCp_t, rdA_t, ob_e, bd1_e, bd2_e, bd3_e, bd4_e, bd5_e, bd6_e, bd7_e, bd8_e, bd9_e, bd10_e, bd12_e, y1, y5, y6]
    rw [y2.2.2.1]) (by
    intro fu size pos num free x1 x2
    simp only [s_X7_chooseLongest_11_s]
    simp (disch := omega) only [cLt_t, cLt_f, cEq_t, cEq_f, cLtL_t, cLtL_f, cEqL_t, cEqL_f, cR_t, cRL_t, cZ_t, cN_t, cCp_t, rdA_t, ob_e, bd1_e, bd2_e, bd3_e, bd4_e, bd5_e, bd6_e, bd7_e, bd8_e, bd9_e, bd10_e, bd12_e]) sl.toNat 0 0 0 pos num tak FU FU (by omega) (by omega) (by omega) (by omega) (by omega) (by omega) (fun i a b => by omega) (FU_lt (by omega)) (FU_lt (by omega))
  have a1 : s_X7_chooseLongest_11 FU sl words 0 pos num 0 0 = some (size2, pos2, num2) := a1
  refine ⟨s2, k2, t2, size2, pos2, num2, tak2, h1, ?_, ?_, a3, a4, a5⟩
  · unfold s_X7_chooseLongest s_X4_clear
    simp (disch := omega) only [cLt_t, cLt_f, cEq_t, cEq_f, cLtL_t, cLtL_f, cEqL_t, cEqL_f, cR_t, cRL_t, cZ_t, cN_t, cCp_t, rdA_t, ob_e, bd1_e, bd2_e, bd3_e, bd4_e, bd5_e, bd6_e, bd7_e, bd8_e, bd9_e, bd10_e, bd12_e, a1]
  · unfold s_X8_laysTaken
    simp (disch := omega) only [cLt_t, cLt_f, cEq_t, cEq_f, cLtL_t, cLtL_f, cEqL_t, cEqL_f, cR_t, cRL_t, cZ_t, cN_t, cCp_t, rdA_t, ob_e, bd1_e, bd2_e, bd3_e, bd4_e, bd5_e, bd6_e, bd7_e, bd8_e, bd9_e, bd10_e, bd12_e, a2]
theorem posAt_e {sl size i : Int} {pos num tak tk : Int → Int} (h : CS sl size pos num tak tk) (h1 : 0 ≤ i) (h2 : i < 2147483648) : s_X4_positionAt 600 size pos i = some (if i < size then pos i else -1) := by
  have a := h.1
  have b := h.2.1
  unfold s_X4_positionAt
  by_cases c : i < size
  · simp (disch := omega) only [cLt_t, cLt_f, cEq_t, cEq_f, cLtL_t, cLtL_f, cEqL_t, cEqL_f, cR_t, cRL_t, cZ_t, cN_t, cCp_t, rdA_t, ob_e, bd1_e, bd2_e, bd3_e, bd4_e, bd5_e, bd6_e, bd7_e, bd8_e, bd9_e, bd10_e, bd12_e, if_pos c]
  · simp (disch := omega) only [cLt_t, cLt_f, cEq_t, cEq_f, cLtL_t, cLtL_f, cEqL_t, cEqL_f, cR_t, cRL_t, cZ_t, cN_t, cCp_t, rdA_t, ob_e, bd1_e, bd2_e, bd3_e, bd4_e, bd5_e, bd6_e, bd7_e, bd8_e, bd9_e, bd10_e, bd12_e, if_neg c]
theorem kwAt_e {sl size i : Int} {pos num tak tk : Int → Int} (h : CS sl size pos num tak tk) (h1 : 0 ≤ i) (h2 : i < 2147483648) : s_X4_keywordAt 600 size num i = some (if i < size then num i else -1) := by
  have a := h.1
  have b := h.2.1
  unfold s_X4_keywordAt
  by_cases c : i < size
  · simp (disch := omega) only [cLt_t, cLt_f, cEq_t, cEq_f, cLtL_t, cLtL_f, cEqL_t, cEqL_f, cR_t, cRL_t, cZ_t, cN_t, cCp_t, rdA_t, ob_e, bd1_e, bd2_e, bd3_e, bd4_e, bd5_e, bd6_e, bd7_e, bd8_e, bd9_e, bd10_e, bd12_e, if_pos c]
  · simp (disch := omega) only [cLt_t, cLt_f, cEq_t, cEq_f, cLtL_t, cLtL_f, cEqL_t, cEqL_f, cR_t, cRL_t, cZ_t, cN_t, cCp_t, rdA_t, ob_e, bd1_e, bd2_e, bd3_e, bd4_e, bd5_e, bd6_e, bd7_e, bd8_e, bd9_e, bd10_e, bd12_e, if_neg c]
theorem taken1_e {sl tm size i : Int} {len pos num tak tak0 tk : Int → Int} (hs2 : sl ≤ 600) (hb : s_X8_laysTaken sl tm len tk tak0 = some (size, tak)) (h : CS sl size pos num tak tk) (h1 : 0 ≤ i) (h2 : i < 2147483648) : s_X8_taken sl tm len tk tak0 i 1 = some (if i < size then pos i else -1, size, tak) := by
  have a := h.1
  have b := h.2.1
  unfold s_X8_taken
  by_cases c : i < size
  · have := h.2.2 i h1 c
    simp (disch := omega) only [cLt_t, cLt_f, cEq_t, cEq_f, cLtL_t, cLtL_f, cEqL_t, cEqL_f, cR_t, cRL_t, cZ_t, cN_t, cCp_t, rdA_t, ob_e, bd1_e, bd2_e, bd3_e, bd4_e, bd5_e, bd6_e, bd7_e, bd8_e, bd9_e, bd10_e, bd12_e, hb, if_pos c, this.2.2.1]
  · simp (disch := omega) only [cLt_t, cLt_f, cEq_t, cEq_f, cLtL_t, cLtL_f, cEqL_t, cEqL_f, cR_t, cRL_t, cZ_t, cN_t, cCp_t, rdA_t, ob_e, bd1_e, bd2_e, bd3_e, bd4_e, bd5_e, bd6_e, bd7_e, bd8_e, bd9_e, bd10_e, bd12_e, hb, if_neg c]
theorem taken0_e {sl tm size i : Int} {len pos num tak tak0 tk : Int → Int} (hs2 : sl ≤ 600) (hb : s_X8_laysTaken sl tm len tk tak0 = some (size, tak)) (h : CS sl size pos num tak tk) (h1 : 0 ≤ i) (h2 : i < 2147483648) : s_X8_taken sl tm len tk tak0 i 0 = some (if i < size then num i else -1, size, tak) := by
  have a := h.1
  have b := h.2.1
  unfold s_X8_taken
  by_cases c : i < size
  · have := h.2.2 i h1 c
    have q1 := this.1
    have q2 := this.2.1
    simp (disch := omega) only [cLt_t, cLt_f, cEq_t, cEq_f, cLtL_t, cLtL_f, cEqL_t, cEqL_f, cR_t, cRL_t, cZ_t, cN_t, cCp_t, rdA_t, ob_e, bd1_e, bd2_e, bd3_e, bd4_e, bd5_e, bd6_e, bd7_e, bd8_e, bd9_e, bd10_e, bd12_e, hb, if_pos c, this.2.2.1]
    rw [this.2.2.2.1]
  · simp (disch := omega) only [cLt_t, cLt_f, cEq_t, cEq_f, cLtL_t, cLtL_f, cEqL_t, cEqL_f, cR_t, cRL_t, cZ_t, cN_t, cCp_t, rdA_t, ob_e, bd1_e, bd2_e, bd3_e, bd4_e, bd5_e, bd6_e, bd7_e, bd8_e, bd9_e, bd10_e, bd12_e, hb, if_neg c]
theorem op_longestSize {gv on sl sz tm th : Int} {len bytes wt live str words starts kat takes pos num tak : Int → Int} (hK : KW gv len bytes wt live) (hd : DSJ on gv len bytes live) (o1 : 0 ≤ on) (o2 : on ≤ 1) (hs1 : 0 ≤ sl) (hs2 : sl ≤ 600) (hS : RB str 0 600) (hT : TBI on gv len bytes live str sl words) : ∃ r x1 x2 x3 y1 y2 y3 y4 y5, s_X7_longestSize sl words sz pos num = some (r, x1, x2, x3) ∧ s_X8_longestSize th gv on sl tm len bytes live str starts kat takes tak = some (r, 0, y1, y2, y3, y4, y5) := by
  obtain ⟨s2, k2, t2, size2, pos2, num2, tak2, h1, h2, h3, h4⟩ := longest_both (sz := sz) (tm := tm) (starts := starts) (kat := kat) (takes := takes) (pos := pos) (num := num) (tak := tak) hK hd o1 o2 hs1 hs2 hS hT
  refine ⟨size2, size2, pos2, num2, size2, s2, k2, t2, tak2, ?_, ?_⟩
  · unfold s_X7_longestSize
    simp (disch := omega) only [cLt_t, cLt_f, cEq_t, cEq_f, cLtL_t, cLtL_f, cEqL_t, cEqL_f, cR_t, cRL_t, cZ_t, cN_t, cCp_t, rdA_t, ob_e, bd1_e, bd2_e, bd3_e, bd4_e, bd5_e, bd6_e, bd7_e, bd8_e, bd9_e, bd10_e, bd12_e, h2]
  · unfold s_X8_longestSize
    simp (disch := omega) only [cLt_t, cLt_f, cEq_t, cEq_f, cLtL_t, cLtL_f, cEqL_t, cEqL_f, cR_t, cRL_t, cZ_t, cN_t, cCp_t, rdA_t, ob_e, bd1_e, bd2_e, bd3_e, bd4_e, bd5_e, bd6_e, bd7_e, bd8_e, bd9_e, bd10_e, bd12_e, h1, h3]
theorem op_longestStart {gv on sl sz tm th i : Int} {len bytes wt live str words starts kat takes pos num tak : Int → Int} (hK : KW gv len bytes wt live) (hd : DSJ on gv len bytes live) (o1 : 0 ≤ on) (o2 : on ≤ 1) (hs1 : 0 ≤ sl) (hs2 : sl ≤ 600) (hS : RB str 0 600) (hT : TBI on gv len bytes live str sl words) (h5 : -2147483648 ≤ i) (h6 : i < 2147483648) : ∃ r x1 x2 x3 y1 y2 y3 y4 y5, s_X7_longestStart sl words sz pos num i = some (r, x1, x2, x3) ∧ s_X8_longestStart th gv on sl tm len bytes live str starts kat takes tak i = some (r, 0, y1, y2, y3, y4, y5) := by
  obtain ⟨s2, k2, t2, size2, pos2, num2, tak2, h1, h2, h3, h4⟩ := longest_both (sz := sz) (tm := tm) (starts := starts) (kat := kat) (takes := takes) (pos := pos) (num := num) (tak := tak) hK hd o1 o2 hs1 hs2 hS hT
  by_cases c : i < 0
  · refine ⟨-3, sz, pos, num, tm, s2, k2, t2, tak, ?_, ?_⟩
    · unfold s_X7_longestStart
      simp (disch := omega) only [cLt_t, cLt_f, cEq_t, cEq_f, cLtL_t, cLtL_f, cEqL_t, cEqL_f, cR_t, cRL_t, cZ_t, cN_t, cCp_t, rdA_t, ob_e, bd1_e, bd2_e, bd3_e, bd4_e, bd5_e, bd6_e, bd7_e, bd8_e, bd9_e, bd10_e, bd12_e]
    · unfold s_X8_longestStart s_X8_taken
      simp (disch := omega) only [cLt_t, cLt_f, cEq_t, cEq_f, cLtL_t, cLtL_f, cEqL_t, cEqL_f, cR_t, cRL_t, cZ_t, cN_t, cCp_t, rdA_t, ob_e, bd1_e, bd2_e, bd3_e, bd4_e, bd5_e, bd6_e, bd7_e, bd8_e, bd9_e, bd10_e, bd12_e, h1]
  · have q1 := posAt_e h4 (show 0 ≤ i by omega) h6
    have q2 := taken1_e hs2 h3 h4 (show 0 ≤ i by omega) h6
    refine ⟨if i < size2 then pos2 i else -1, size2, pos2, num2, size2, s2, k2, t2, tak2, ?_, ?_⟩
    · unfold s_X7_longestStart
      simp (disch := omega) only [cLt_t, cLt_f, cEq_t, cEq_f, cLtL_t, cLtL_f, cEqL_t, cEqL_f, cR_t, cRL_t, cZ_t, cN_t, cCp_t, rdA_t, ob_e, bd1_e, bd2_e, bd3_e, bd4_e, bd5_e, bd6_e, bd7_e, bd8_e, bd9_e, bd10_e, bd12_e, h2, q1]
    · unfold s_X8_longestStart
      simp (disch := omega) only [cLt_t, cLt_f, cEq_t, cEq_f, cLtL_t, cLtL_f, cEqL_t, cEqL_f, cR_t, cRL_t, cZ_t, cN_t, cCp_t, rdA_t, ob_e, bd1_e, bd2_e, bd3_e, bd4_e, bd5_e, bd6_e, bd7_e, bd8_e, bd9_e, bd10_e, bd12_e, h1, q2]
theorem op_longestKeyword {gv on sl sz tm th i : Int} {len bytes wt live str words starts kat takes pos num tak : Int → Int} (hK : KW gv len bytes wt live) (hd : DSJ on gv len bytes live) (o1 : 0 ≤ on) (o2 : on ≤ 1) (hs1 : 0 ≤ sl) (hs2 : sl ≤ 600) (hS : RB str 0 600) (hT : TBI on gv len bytes live str sl words) (h5 : -2147483648 ≤ i) (h6 : i < 2147483648) : ∃ r x1 x2 x3 y1 y2 y3 y4 y5, s_X7_longestKeyword sl words sz pos num i = some (r, x1, x2, x3) ∧ s_X8_longestKeyword th gv on sl tm len bytes live str starts kat takes tak i = some (r, 0, y1, y2, y3, y4, y5) := by
  obtain ⟨s2, k2, t2, size2, pos2, num2, tak2, h1, h2, h3, h4⟩ := longest_both (sz := sz) (tm := tm) (starts := starts) (kat := kat) (takes := takes) (pos := pos) (num := num) (tak := tak) hK hd o1 o2 hs1 hs2 hS hT
  by_cases c : i < 0
  · refine ⟨-3, sz, pos, num, tm, s2, k2, t2, tak, ?_, ?_⟩
    · unfold s_X7_longestKeyword
      simp (disch := omega) only [cLt_t, cLt_f, cEq_t, cEq_f, cLtL_t, cLtL_f, cEqL_t, cEqL_f, cR_t, cRL_t, cZ_t, cN_t, cCp_t, rdA_t, ob_e, bd1_e, bd2_e, bd3_e, bd4_e, bd5_e, bd6_e, bd7_e, bd8_e, bd9_e, bd10_e, bd12_e]
    · unfold s_X8_longestKeyword s_X8_taken
      simp (disch := omega) only [cLt_t, cLt_f, cEq_t, cEq_f, cLtL_t, cLtL_f, cEqL_t, cEqL_f, cR_t, cRL_t, cZ_t, cN_t, cCp_t, rdA_t, ob_e, bd1_e, bd2_e, bd3_e, bd4_e, bd5_e, bd6_e, bd7_e, bd8_e, bd9_e, bd10_e, bd12_e, h1]
  · have q1 := kwAt_e h4 (show 0 ≤ i by omega) h6
    have q2 := taken0_e hs2 h3 h4 (show 0 ≤ i by omega) h6
    refine ⟨if i < size2 then num2 i else -1, size2, pos2, num2, size2, s2, k2, t2, tak2, ?_, ?_⟩
    · unfold s_X7_longestKeyword
      simp (disch := omega) only [cLt_t, cLt_f, cEq_t, cEq_f, cLtL_t, cLtL_f, cEqL_t, cEqL_f, cR_t, cRL_t, cZ_t, cN_t, cCp_t, rdA_t, ob_e, bd1_e, bd2_e, bd3_e, bd4_e, bd5_e, bd6_e, bd7_e, bd8_e, bd9_e, bd10_e, bd12_e, h2, q1]
    · unfold s_X8_longestKeyword
      simp (disch := omega) only [cLt_t, cLt_f, cEq_t, cEq_f, cLtL_t, cLtL_f, cEqL_t, cEqL_f, cR_t, cRL_t, cZ_t, cN_t, cCp_t, rdA_t, ob_e, bd1_e, bd2_e, bd3_e, bd4_e, bd5_e, bd6_e, bd7_e, bd8_e, bd9_e, bd10_e, bd12_e, h1, q2]
