/-! ===== the best cover ===== -/
def pkf (c w n : Int → Int) (q : Int) : Int := c q * 67108864 + w q * 1024 - n q
def cnd (len wt c w n : Int → Int) (p k : Int) : Int := pkf c w n (p + len k) + (len k * 67108864 + wt k * 1024 - 1)
def MS (gv : Int) (len live words : Int → Int) (p k : Int) : Prop := LV gv live k ∧ mt words p (len k) = k
def BD (sl : Int) (c w n : Int → Int) (q : Int) : Prop := 0 ≤ c q ∧ c q ≤ sl - q ∧ 0 ≤ w q ∧ w q ≤ 99 * (sl - q) ∧ 0 ≤ n q ∧ n q ≤ sl - q ∧ 0 ≤ pkf c w n q
theorem MS.rg {gv on sl p k : Int} {len bytes wt live str words : Int → Int} (hK : KW gv len bytes wt live) (hT : TBI on gv len bytes live str sl words) (hp : 0 ≤ p) (hp2 : p < 600) (h : MS gv len live words p k) : 0 ≤ k ∧ k < gv ∧ live k = 1 ∧ 1 ≤ len k ∧ len k ≤ 16 ∧ 1 ≤ wt k ∧ wt k ≤ 99 ∧ p + len k ≤ sl ∧ ha words p (len k) = 1 := by
  obtain ⟨⟨a, b, c⟩, d⟩ := h
  have hk := hK.2.2 k a b
  have e : ha words p (len k) = 1 := by
    unfold ha
    exact if_pos ⟨⟨hp, hp2, hk.1, hk.2.1⟩, by omega⟩
  have f := ha_end hT (p := p) (l := len k) (by omega)
  exact ⟨a, b, c, hk.1, hk.2.1, hk.2.2.1, hk.2.2.2.1, f.2.2.2, e⟩
theorem MS.of {gv on sl p l : Int} {len bytes live str words : Int → Int} (hT : TBI on gv len bytes live str sl words) (h : ha words p l = 1) : MS gv len live words p (mt words p l) ∧ len (mt words p l) = l := by
  have q := mt_live hT (p := p) (l := l) (by omega)
  exact ⟨⟨q.1, by rw [q.2.1]⟩, q.2.1⟩
theorem X8_better_e {sl p k : Int} {len wt c w n : Int → Int} (hk1 : 0 ≤ k) (hk2 : k < 120) (hp : 0 ≤ p) (hL : 1 ≤ len k) (hL2 : len k ≤ 16) (hW : 1 ≤ wt k) (hW2 : wt k ≤ 99) (hs : p + len k ≤ sl) (hs2 : sl ≤ 600) (b1 : BD sl c w n (p + len k)) (x1 : 0 ≤ c p) (x2 : c p ≤ 600) (x3 : 0 ≤ w p) (x4 : w p ≤ 59400) (x5 : 0 ≤ n p) (x6 : n p ≤ 600) : ∃ r, s_X8_better len wt c w n p k = some r ∧ -100000 < r ∧ r < 100000 ∧ (0 < r ↔ pkf c w n p < cnd len wt c w n p k) ∧ (r = 0 ↔ pkf c w n p = cnd len wt c w n p k) := by
  obtain ⟨y1, y2, y3, y4, y5, y6, -⟩ := b1
  unfold s_X8_better cnd pkf
  by_cases h1 : c (p + len k) + len k - c p = 0
  · by_cases h2 : w (p + len k) + wt k - w p = 0
    · refine ⟨n p - n (p + len k) - 1, ?_, by omega, by omega, by omega, by omega⟩
      simp (disch := omega) only [cLt_t, cLt_f, cEq_t, cEq_f, cLtL_t, cLtL_f, cEqL_t, cEqL_f, cR_t, cRL_t, cZ_t, cN_t, cCp_t, rdA_t, ob_e, bd1_e, bd2_e, bd3_e, bd4_e, bd5_e, bd6_e, bd7_e, bd8_e, bd9_e, bd10_e, bd12_e]
    · refine ⟨w (p + len k) + wt k - w p, ?_, by omega, by omega, by omega, by omega⟩
      simp (disch := omega) only [cLt_t, cLt_f, cEq_t, cEq_f, cLtL_t, cLtL_f, cEqL_t, cEqL_f, cR_t, cRL_t, cZ_t, cN_t, cCp_t, rdA_t, ob_e, bd1_e, bd2_e, bd3_e, bd4_e, bd5_e, bd6_e, bd7_e, bd8_e, bd9_e, bd10_e, bd12_e]
  · refine ⟨c (p + len k) + len k - c p, ?_, by omega, by omega, by omega, by omega⟩
    simp (disch := omega) only [cLt_t, cLt_f, cEq_t, cEq_f, cLtL_t, cLtL_f, cEqL_t, cEqL_f, cR_t, cRL_t, cZ_t, cN_t, cCp_t, rdA_t, ob_e, bd1_e, bd2_e, bd3_e, bd4_e, bd5_e, bd6_e, bd7_e, bd8_e, bd9_e, bd10_e, bd12_e]
/-- what the model has at place p, with the keywords before k seen -/
def LI (gv sl : Int) (len wt live words c w n t : Int → Int) (p k : Int) : Prop :=
  pkf c w n (p + 1) ≤ pkf c w n p ∧ (∀ j, j < k → MS gv len live words p j → cnd len wt c w n p j ≤ pkf c w n p) ∧
  ((t p = -1 ∧ c p = c (p + 1) ∧ w p = w (p + 1) ∧ n p = n (p + 1) ∧ ∀ j, j < k → MS gv len live words p j → cnd len wt c w n p j < pkf c w n p) ∨
   (t p ≠ -1 ∧ t p < k ∧ MS gv len live words p (t p) ∧ c p = c (p + len (t p)) + len (t p) ∧ w p = w (p + len (t p)) + wt (t p) ∧ n p = n (p + len (t p)) + 1 ∧ ∀ j, j < t p → MS gv len live words p j → cnd len wt c w n p j < pkf c w n p))
theorem LI.skip {gv sl p k : Int} {len wt live words c w n t : Int → Int} (h : LI gv sl len wt live words c w n t p k) (hn : ¬ MS gv len live words p k) : LI gv sl len wt live words c w n t p (k + 1) := by
  obtain ⟨h1, h2, h3⟩ := h
  refine ⟨h1, fun j a b => ?_, ?_⟩
  · by_cases e : j = k
    · rw [e] at b; exact absurd b hn
    · exact h2 j (by omega) b
  · rcases h3 with ⟨a1, a2, a3, a4, a5⟩ | ⟨a1, a2, a3⟩
    · refine Or.inl ⟨a1, a2, a3, a4, fun j a b => ?_⟩
      by_cases e : j = k
      · rw [e] at b; exact absurd b hn
      · exact a5 j (by omega) b
    · exact Or.inr ⟨a1, by omega, a3⟩
theorem LI.keep {gv sl p k : Int} {len wt live words c w n t : Int → Int} (h : LI gv sl len wt live words c w n t p k) (hc : cnd len wt c w n p k < pkf c w n p ∨ (cnd len wt c w n p k = pkf c w n p ∧ t p ≠ -1)) : LI gv sl len wt live words c w n t p (k + 1) := by
  obtain ⟨h1, h2, h3⟩ := h
  refine ⟨h1, fun j a b => ?_, ?_⟩
  · by_cases e : j = k
    · rw [e]; omega
    · exact h2 j (by omega) b
  · rcases h3 with ⟨a1, a2, a3, a4, a5⟩ | ⟨a1, a2, a3⟩
    · refine Or.inl ⟨a1, a2, a3, a4, fun j a b => ?_⟩
      by_cases e : j = k
      · rw [e]; omega
      · exact a5 j (by omega) b
    · exact Or.inr ⟨a1, by omega, a3⟩
theorem pkf_up {c w n : Int → Int} {p x y z q : Int} (h : q ≠ p) : pkf (upA c p x) (upA w p y) (upA n p z) q = pkf c w n q := by
  unfold pkf; rw [upA_n h, upA_n h, upA_n h]
theorem pkf_at {c w n : Int → Int} {p x y z : Int} : pkf (upA c p x) (upA w p y) (upA n p z) p = x * 67108864 + y * 1024 - z := by
  unfold pkf; rw [upA_s, upA_s, upA_s]
theorem cnd_up {len wt c w n : Int → Int} {p x y z j : Int} (h : 1 ≤ len j) : cnd len wt (upA c p x) (upA w p y) (upA n p z) p j = cnd len wt c w n p j := by
  unfold cnd; rw [pkf_up (by omega)]
theorem LI.put {gv on sl p k : Int} {len bytes wt live str words c w n t : Int → Int} (hK : KW gv len bytes wt live) (hT : TBI on gv len bytes live str sl words) (hp : 0 ≤ p) (hp2 : p < 600) (h : LI gv sl len wt live words c w n t p k) (hm : MS gv len live words p k) (hc : pkf c w n p < cnd len wt c w n p k ∨ (pkf c w n p = cnd len wt c w n p k ∧ t p = -1)) : LI gv sl len wt live words (upA c p (c (p + len k) + len k)) (upA w p (w (p + len k) + wt k)) (upA n p (n (p + len k) + 1)) (upA t p k) p (k + 1) := by
  obtain ⟨h1, h2, h3⟩ := h
  have hr := hm.rg hK hT hp hp2
  have e : pkf (upA c p (c (p + len k) + len k)) (upA w p (w (p + len k) + wt k)) (upA n p (n (p + len k) + 1)) p = cnd len wt c w n p k := by
    rw [pkf_at]; unfold cnd pkf; omega
  refine ⟨?_, fun j a b => ?_, Or.inr ⟨?_, ?_, ?_, ?_, ?_, ?_, fun j a b => ?_⟩⟩
  · rw [e, pkf_up (by omega)]; omega
  · have hj := b.rg hK hT hp hp2
    rw [e, cnd_up hj.2.2.2.1]
    by_cases q : j = k
    · rw [q]; omega
    · have := h2 j (by omega) b; omega
  · rw [upA_s]; omega
  · rw [upA_s]; omega
  · rw [upA_s]; exact hm
  · rw [upA_s, upA_s, upA_n (by omega)]
  · rw [upA_s, upA_s, upA_n (by omega)]
  · rw [upA_s, upA_s, upA_n (by omega)]
  · rw [upA_s] at a
    have hj := b.rg hK hT hp hp2
    rw [e, cnd_up hj.2.2.2.1]
    rcases h3 with ⟨a1, a2, a3, a4, a5⟩ | ⟨a1, a2, a3⟩
    · have := a5 j a b; omega
    · have := h2 j a b; omega
theorem LI.bd {gv on sl p k : Int} {len bytes wt live str words c w n t : Int → Int} (hK : KW gv len bytes wt live) (hT : TBI on gv len bytes live str sl words) (hp : 0 ≤ p) (hp2 : p < 600) (hs : p < sl) (hs2 : sl ≤ 600) (hb : ∀ q, p < q → q ≤ sl → BD sl c w n q) (h : LI gv sl len wt live words c w n t p k) : BD sl c w n p := by
  obtain ⟨h1, h2, h3⟩ := h
  have b1 := hb (p + 1) (by omega) (by omega)
  obtain ⟨z1, z2, z3, z4, z5, z6, z7⟩ := b1
  rcases h3 with ⟨a1, a2, a3, a4, a5⟩ | ⟨a1, a2, a3, a4, a5, a6, a7⟩
  · exact ⟨by omega, by omega, by omega, by omega, by omega, by omega, by omega⟩
  · have hr := a3.rg hK hT hp hp2
    obtain ⟨y1, y2, y3, y4, y5, y6, y7⟩ := hb (p + len (t p)) (by omega) (by omega)
    exact ⟨by omega, by omega, by omega, by omega, by omega, by omega, by omega⟩
/-- the model's four rows, laid from p on -/
def CVR (gv sl : Int) (len wt live words c w n t : Int → Int) (p : Int) : Prop := c sl = 0 ∧ w sl = 0 ∧ n sl = 0 ∧ (∀ q, p ≤ q → q ≤ sl → BD sl c w n q) ∧ ∀ q, p ≤ q → q < sl → LI gv sl len wt live words c w n t q gv
theorem LI.cg {gv sl p k : Int} {len wt live words c w n t c2 w2 n2 t2 : Int → Int} (h : LI gv sl len wt live words c w n t p k) (hK : ∀ j, MS gv len live words p j → 1 ≤ len j) (e1 : ∀ q, p ≤ q → c2 q = c q) (e2 : ∀ q, p ≤ q → w2 q = w q) (e3 : ∀ q, p ≤ q → n2 q = n q) (e4 : t2 p = t p) : LI gv sl len wt live words c2 w2 n2 t2 p k := by
  have ep : ∀ q, p ≤ q → pkf c2 w2 n2 q = pkf c w n q := fun q a => by unfold pkf; rw [e1 q a, e2 q a, e3 q a]
  have ec : ∀ j, MS gv len live words p j → cnd len wt c2 w2 n2 p j = cnd len wt c w n p j := fun j a => by
    have := hK j a
    unfold cnd; rw [ep _ (by omega)]
  obtain ⟨h1, h2, h3⟩ := h
  refine ⟨by rw [ep _ (by omega), ep _ (by omega)]; exact h1, fun j a b => by rw [ec j b, ep _ (by omega)]; exact h2 j a b, ?_⟩
  rcases h3 with ⟨a1, a2, a3, a4, a5⟩ | ⟨a1, a2, a3, a4, a5, a6, a7⟩
  · exact Or.inl ⟨by rw [e4]; exact a1, by rw [e1 _ (by omega), e1 _ (by omega)]; exact a2, by rw [e2 _ (by omega), e2 _ (by omega)]; exact a3, by rw [e3 _ (by omega), e3 _ (by omega)]; exact a4, fun j a b => by rw [ec j b, ep _ (by omega)]; exact a5 j a b⟩
  · have hl := hK _ a3
    refine Or.inr ⟨by rw [e4]; exact a1, by rw [e4]; exact a2, by rw [e4]; exact a3, ?_, ?_, ?_, fun j a b => ?_⟩
    · rw [e4, e1 _ (by omega), e1 _ (by omega)]; exact a4
    · rw [e4, e2 _ (by omega), e2 _ (by omega)]; exact a5
    · rw [e4, e3 _ (by omega), e3 _ (by omega)]; exact a6
    · rw [e4] at a; rw [ec j b, ep _ (by omega)]; exact a7 j a b
theorem X8_laysCover_96_e {gv on sl p : Int} {len bytes wt live str words s2 k2 c0 w0 n0 t0 : Int → Int} (hK : KW gv len bytes wt live) (hT : TBI on gv len bytes live str sl words) (l2 : LM sl words s2 k2) (hs2 : sl ≤ 600) (hp : 0 ≤ p) (hps : p < sl) (hb : ∀ q, p < q → q ≤ sl → BD sl c0 w0 n0 q) (h0 : LI gv sl len wt live words c0 w0 n0 t0 p 0) :
    ∃ c w n t, s_X8_laysCover_96 FU gv len wt live s2 k2 c0 w0 n0 t0 p 0 = some (c, w, n, t) ∧ (∀ q, q ≠ p → c q = c0 q ∧ w q = w0 q ∧ n q = n0 q ∧ t q = t0 q) ∧ LI gv sl len wt live words c w n t p gv := by
  have hg0 := hK.1
  have hg := hK.2.1
  obtain ⟨s, b1, b2⟩ := loopJ (fun fu (s : (Int → Int) × (Int → Int) × (Int → Int) × (Int → Int)) k => s_X8_laysCover_96 fu gv len wt live s2 k2 s.1 s.2.1 s.2.2.1 s.2.2.2 p k) (fun s => s) 0 gv hg0 (c0, w0, n0, t0) (fun k s => (∀ q, q ≠ p → s.1 q = c0 q ∧ s.2.1 q = w0 q ∧ s.2.2.1 q = n0 q ∧ s.2.2.2 q = t0 q) ∧ LI gv sl len wt live words s.1 s.2.1 s.2.2.1 s.2.2.2 p k) ⟨fun q a => ⟨rfl, rfl, rfl, rfl⟩, h0⟩ (by
    intro fu ⟨c, w, n, t⟩ k g1 g2 ⟨g3, g4⟩
    have g3 : ∀ q, q ≠ p → c q = c0 q ∧ w q = w0 q ∧ n q = n0 q ∧ t q = t0 q := g3
    have g4 : LI gv sl len wt live words c w n t p k := g4
    have hk := hK.2.2 k g1 g2
    have hbc : ∀ q, p < q → q ≤ sl → BD sl c w n q := fun q a b => by
      have e := g3 q (by omega)
      have := hb q a b
      unfold BD pkf at *
      rw [e.1, e.2.1, e.2.2.1]; exact this
    have w1 := X8_hasAt_e l2 hs2 hp hps hk.1 hk.2.1
    have w2 := ha_rg words p (len k)
    simp only [s_X8_laysCover_96_s]
    rcases hk.2.2.2.2.1 with hl | hl
    · refine ⟨(c, w, n, t), ⟨g3, g4.skip (fun q => by have := q.1.2.2; omega)⟩, ?_⟩
      simp (disch := omega) only [cLt_t, cLt_f, cEq_t, cEq_f, cLtL_t, cLtL_f, cEqL_t, cEqL_f, cR_t, cRL_t, cZ_t, cN_t, cCp_t, rdA_t, ob_e, bd1_e, bd2_e, bd3_e, bd4_e, bd5_e, bd6_e, bd7_e, bd8_e, bd9_e, bd10_e, bd12_e, hl]
    · by_cases c1 : ha words p (len k) = 0
      · refine ⟨(c, w, n, t), ⟨g3, g4.skip (fun q => by have := q.rg hK hT hp (by omega); omega)⟩, ?_⟩
        simp (disch := omega) only [cLt_t, cLt_f, cEq_t, cEq_f, cLtL_t, cLtL_f, cEqL_t, cEqL_f, cR_t, cRL_t, cZ_t, cN_t, cCp_t, rdA_t, ob_e, bd1_e, bd2_e, bd3_e, bd4_e, bd5_e, bd6_e, bd7_e, bd8_e, bd9_e, bd10_e, bd12_e, hl, w1]
      · have hm := (l2 p (len k) hp hps hk.1 hk.2.1).2
        have hm2 := mt_live hT (p := p) (l := len k) c1
        have hmr := mt_rg (words := words) (p := p) (l := len k)
        have hm3 := hm hm2.2.2
        by_cases c2 : mt words p (len k) = k
        · have hM : MS gv len live words p k := ⟨⟨g1, g2, hl⟩, c2⟩
          have hr := hM.rg hK hT hp (by omega)
          have hB := g4.bd hK hT hp (by omega) hps hs2 hbc
          obtain ⟨z1, z2, z3, z4, z5, z6, z7⟩ := hB
          obtain ⟨r, r1, r2, r3, r4, r5⟩ := X8_better_e (sl := sl) (p := p) (k := k) (len := len) (wt := wt) (c := c) (w := w) (n := n) g1 (by omega) hp (by omega) (by omega) (by omega) (by omega) (by omega) hs2 (hbc (p + len k) (by omega) (by omega)) (by omega) (by omega) (by omega) (by omega) (by omega) (by omega)
          by_cases c3 : r < 0
          · refine ⟨(c, w, n, t), ⟨g3, g4.keep (Or.inl (by omega))⟩, ?_⟩
            simp (disch := omega) only [cLt_t, cLt_f, cEq_t, cEq_f, cLtL_t, cLtL_f, cEqL_t, cEqL_f, cR_t, cRL_t, cZ_t, cN_t, cCp_t, rdA_t, ob_e, bd1_e, bd2_e, bd3_e, bd4_e, bd5_e, bd6_e, bd7_e, bd8_e, bd9_e, bd10_e, bd12_e, hl, w1, hm3, c2, r1]
          · by_cases c4 : r = 0
            · by_cases c5 : t p = -1
              · refine ⟨(upA c p (c (p + len k) + len k), upA w p (w (p + len k) + wt k), upA n p (n (p + len k) + 1), upA t p k), ⟨fun q a => ?_, g4.put hK hT hp (by omega) hM (Or.inr ⟨r5.mp c4, c5⟩)⟩, ?_⟩
                · show upA c p _ q = c0 q ∧ upA w p _ q = w0 q ∧ upA n p _ q = n0 q ∧ upA t p _ q = t0 q
                  rw [upA_n a, upA_n a, upA_n a, upA_n a]; exact g3 q a
                · simp (disch := omega) only [cLt_t, cLt_f, cEq_t, cEq_f, cLtL_t, cLtL_f, cEqL_t, cEqL_f, cR_t, cRL_t, cZ_t, cN_t, cCp_t, rdA_t, ob_e, bd1_e, bd2_e, bd3_e, bd4_e, bd5_e, bd6_e, bd7_e, bd8_e, bd9_e, bd10_e, bd12_e, hl, w1, hm3, c2, r1, c5]
              · have c6 : -1 ≤ t p ∧ t p < 120 := by
                  rcases g4.2.2 with ⟨q, -⟩ | ⟨-, q1, q2, -⟩
                  · omega
                  · have := q2.1.1; omega
                refine ⟨(c, w, n, t), ⟨g3, g4.keep (Or.inr ⟨(r5.mp c4).symm, c5⟩)⟩, ?_⟩
                simp (disch := omega) only [cLt_t, cLt_f, cEq_t, cEq_f, cLtL_t, cLtL_f, cEqL_t, cEqL_f, cR_t, cRL_t, cZ_t, cN_t, cCp_t, rdA_t, ob_e, bd1_e, bd2_e, bd3_e, bd4_e, bd5_e, bd6_e, bd7_e, bd8_e, bd9_e, bd10_e, bd12_e, hl, w1, hm3, c2, r1]
            · refine ⟨(upA c p (c (p + len k) + len k), upA w p (w (p + len k) + wt k), upA n p (n (p + len k) + 1), upA t p k), ⟨fun q a => ?_, g4.put hK hT hp (by omega) hM (Or.inl (r4.mp (by omega)))⟩, ?_⟩
              · show upA c p _ q = c0 q ∧ upA w p _ q = w0 q ∧ upA n p _ q = n0 q ∧ upA t p _ q = t0 q
                rw [upA_n a, upA_n a, upA_n a, upA_n a]; exact g3 q a
              · simp (disch := omega) only [cLt_t, cLt_f, cEq_t, cEq_f, cLtL_t, cLtL_f, cEqL_t, cEqL_f, cR_t, cRL_t, cZ_t, cN_t, cCp_t, rdA_t, ob_e, bd1_e, bd2_e, bd3_e, bd4_e, bd5_e, bd6_e, bd7_e, bd8_e, bd9_e, bd10_e, bd12_e, hl, w1, hm3, c2, r1]
        · refine ⟨(c, w, n, t), ⟨g3, g4.skip (fun q => c2 q.2)⟩, ?_⟩
          simp (disch := omega) only [cLt_t, cLt_f, cEq_t, cEq_f, cLtL_t, cLtL_f, cEqL_t, cEqL_f, cR_t, cRL_t, cZ_t, cN_t, cCp_t, rdA_t, ob_e, bd1_e, bd2_e, bd3_e, bd4_e, bd5_e, bd6_e, bd7_e, bd8_e, bd9_e, bd10_e, bd12_e, hl, w1, hm3]) (by
    intro fu s _
    simp only [s_X8_laysCover_96_s]
    simp (disch := omega) only [cLt_t, cLt_f, cEq_t, cEq_f, cLtL_t, cLtL_f, cEqL_t, cEqL_f, cR_t, cRL_t, cZ_t, cN_t, cCp_t, rdA_t, ob_e, bd1_e, bd2_e, bd3_e, bd4_e, bd5_e, bd6_e, bd7_e, bd8_e, bd9_e, bd10_e, bd12_e]) FU (FU_lt (by omega))
  obtain ⟨c, w, n, t⟩ := s
  exact ⟨c, w, n, t, b2, b1.1, b1.2⟩
theorem X8_laysCover_e {gv on sl : Int} {len bytes wt live str words starts kat cA wA nA tA : Int → Int} (hK : KW gv len bytes wt live) (hd : DSJ on gv len bytes live) (o1 : 0 ≤ on) (o2 : on ≤ 1) (hs1 : 0 ≤ sl) (hs2 : sl ≤ 600) (hS : RB str 0 600) (hT : TBI on gv len bytes live str sl words) :
    ∃ s2 k2 c w n t, s_X8_laysCover gv on sl len bytes wt live str starts kat cA wA nA tA = some (s2, k2, c, w, n, t) ∧ CVR gv sl len wt live words c w n t 0 := by
  obtain ⟨s2, k2, l1, l2⟩ := X8_laysMatches_e (starts := starts) (kat := kat) hK hd o1 o2 hs1 hs2 hS hT
  obtain ⟨s, b1, b2⟩ := loopD (fun fu (s : (Int → Int) × (Int → Int) × (Int → Int) × (Int → Int)) p => s_X8_laysCover_41 fu gv len wt live s2 k2 s.1 s.2.1 s.2.2.1 s.2.2.2 p) (fun s => s) (sl - 1) 0 (by omega) (upA cA sl 0, upA wA sl 0, upA nA sl 0, tA) (fun p s => CVR gv sl len wt live words s.1 s.2.1 s.2.2.1 s.2.2.2 p) (by
      refine ⟨upA_s, upA_s, upA_s, fun q a b => ?_, fun q a b => by omega⟩
      have e : q = sl := by omega
      rw [e]
      show BD sl (upA cA sl 0) (upA wA sl 0) (upA nA sl 0) sl
      unfold BD
      rw [pkf_at, upA_s, upA_s, upA_s]
      exact ⟨by omega, by omega, by omega, by omega, by omega, by omega, by omega⟩) (by
    intro fu ⟨c, w, n, t⟩ p g1 g2 g3
    have g3 : CVR gv sl len wt live words c w n t (p + 1) := g3
    obtain ⟨f1, f2, f3, f4, f5⟩ := g3
    have hb : ∀ q, p < q → q ≤ sl → BD sl (upA c p (c (p + 1))) (upA w p (w (p + 1))) (upA n p (n (p + 1))) q := fun q a b => by
      have := f4 q (by omega) b
      unfold BD at *
      rw [pkf_up (by omega), upA_n (by omega), upA_n (by omega), upA_n (by omega)]
      exact this
    have h0 : LI gv sl len wt live words (upA c p (c (p + 1))) (upA w p (w (p + 1))) (upA n p (n (p + 1))) (upA t p (-1)) p 0 := by
      refine ⟨?_, fun j a b => by have := b.1.1; omega, Or.inl ⟨upA_s, ?_, ?_, ?_, fun j a b => by have := b.1.1; omega⟩⟩
      · rw [pkf_up (by omega), pkf_at]; unfold pkf; omega
      · rw [upA_s, upA_n (by omega)]
      · rw [upA_s, upA_n (by omega)]
      · rw [upA_s, upA_n (by omega)]
    obtain ⟨c2, w2, n2, t2, a1, a2, a3⟩ := X8_laysCover_96_e hK hT l2 hs2 g1 (by omega) hb h0
    have e1 : ∀ q, p + 1 ≤ q → c2 q = c q ∧ w2 q = w q ∧ n2 q = n q ∧ t2 q = t q := fun q a => by
      have := a2 q (by omega)
      rw [upA_n (by omega), upA_n (by omega), upA_n (by omega), upA_n (by omega)] at this
      exact this
    have hb2 : ∀ q, p < q → q ≤ sl → BD sl c2 w2 n2 q := fun q a b => by
      have := f4 q (by omega) b
      have e := e1 q (by omega)
      unfold BD pkf at *
      rw [e.1, e.2.1, e.2.2.1]; exact this
    refine ⟨(c2, w2, n2, t2), ⟨?_, ?_, ?_, fun q a b => ?_, fun q a b => ?_⟩, ?_⟩
    · show c2 sl = 0
      rw [(e1 sl (by omega)).1]; exact f1
    · show w2 sl = 0
      rw [(e1 sl (by omega)).2.1]; exact f2
    · show n2 sl = 0
      rw [(e1 sl (by omega)).2.2.1]; exact f3
    · by_cases e : q = p
      · rw [e]; exact a3.bd hK hT g1 (by omega) (by omega) hs2 hb2
      · exact hb2 q (by omega) b
    · by_cases e : q = p
      · rw [e]; exact a3
      · exact (f5 q (by omega) b).cg (fun j a => (a.rg hK hT (by omega) (by omega)).2.2.2.1) (fun r a => (e1 r (by omega)).1) (fun r a => (e1 r (by omega)).2.1) (fun r a => (e1 r (by omega)).2.2.1) (e1 q (by omega)).2.2.2
    · simp only [s_X8_laysCover_41_s]
      simp (disch := omega) only [cLt_t, cLt_f, cEq_t, cEq_f, cLtL_t, cLtL_f, cEqL_t, cEqL_f, cR_t, cRL_t, cZ_t, cN_t, cCp_t, rdA_t, ob_e, bd1_e, bd2_e, bd3_e, bd4_e, bd5_e, bd6_e, bd7_e, bd8_e, bd9_e, bd10_e, bd12_e, a1]) (by
    intro fu s _
    simp only [s_X8_laysCover_41_s]
    simp (disch := omega) only [cLt_t, cLt_f, cEq_t, cEq_f, cLtL_t, cLtL_f, cEqL_t, cEqL_f, cR_t, cRL_t, cZ_t, cN_t, cCp_t, rdA_t, ob_e, bd1_e, bd2_e, bd3_e, bd4_e, bd5_e, bd6_e, bd7_e, bd8_e, bd9_e, bd10_e, bd12_e]) FU (FU_lt (by omega))
  obtain ⟨c, w, n, t⟩ := s
  have b2 : s_X8_laysCover_41 FU gv len wt live s2 k2 (upA cA sl 0) (upA wA sl 0) (upA nA sl 0) tA (sl - 1) = some (c, w, n, t) := b2
  refine ⟨s2, k2, c, w, n, t, ?_, b1⟩
  unfold s_X8_laysCover
  simp (disch := omega) only [cLt_t, cLt_f, cEq_t, cEq_f, cLtL_t, cLtL_f, cEqL_t, cEqL_f, cR_t, cRL_t, cZ_t, cN_t, cCp_t, rdA_t, ob_e, bd1_e, bd2_e, bd3_e, bd4_e, bd5_e, bd6_e, bd7_e, bd8_e, bd9_e, bd10_e, bd12_e, l1, b2]
