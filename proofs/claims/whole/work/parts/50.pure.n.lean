/-! ===== adding and removing ===== -/
theorem CE.move {on sl p l x : Int} {len len2 bytes bytes2 str : Int → Int} {K : Int → Prop} (h : CE on len bytes str sl K p l x) (hl : ∀ k, K k → len2 k = len k) (hm : ∀ k, K k → (MA on len bytes str sl k p ↔ MA on len2 bytes2 str sl k p)) : CE on len2 bytes2 str sl K p l x := by
  rcases h with ⟨h1, h2⟩ | ⟨h1, h2, h3, h4⟩
  · exact Or.inl ⟨h1, fun k a b c => h2 k a (by rw [← hl k a]; exact b) ((hm k a).mpr c)⟩
  · exact Or.inr ⟨h1, h2, by rw [hl x h2]; exact h3, (hm x h2).mp h4⟩
/-- the keywords' bytes with the first n of a new one -/
def kby (bytes : Int → Int) (gv : Int) (buf : Int → Int) : Nat → (Int → Int)
  | 0 => bytes
  | n + 1 => upA (kby bytes gv buf n) (16 * gv + (n : Int)) (buf (n : Int))
theorem kby_old {bytes buf : Int → Int} {gv i : Int} (h : i < 16 * gv) : ∀ n, kby bytes gv buf n i = bytes i := by
  intro n
  induction n with
  | zero => rfl
  | succ n ih => unfold kby; rw [upA_n (by omega)]; exact ih
theorem kby_new {bytes buf : Int → Int} {gv j : Int} : ∀ n : Nat, 0 ≤ j → j < (n : Int) → kby bytes gv buf n (16 * gv + j) = buf j := by
  intro n
  induction n with
  | zero => intro a b; omega
  | succ n ih =>
    intro a b
    unfold kby
    by_cases h : j = (n : Int)
    · rw [h, upA_s]
    · rw [upA_n (by omega)]; exact ih a (by omega)
theorem X3_give_e {gv al bl n w : Int} {len bytes wt live buf : Int → Int} (h1 : 0 ≤ gv) (h2 : gv < 120) (hb1 : 0 ≤ bl) (hb2 : bl ≤ 200) (hn1 : 1 ≤ n) (hn2 : n ≤ 16) (hn3 : n ≤ bl) : s_X3_give 200 gv al bytes len wt live bl buf n w = some (gv, gv + 1, al + 1, kby bytes gv buf n.toNat, upA len gv n, upA wt gv w, upA live gv 1) := by
  have main := loopR (fun fu (st : (Int → Int) × Int) => s_X3_give_30 200 fu st.1 bl buf n w gv st.2) (fun st => (n - st.2).toNat) (fun st => 0 ≤ st.2 ∧ st.2 ≤ n ∧ st.1 = kby bytes gv buf st.2.toNat) (fun r => r = kby bytes gv buf n.toNat) ?_ FU (bytes, 0) ⟨Int.le_refl _, by show 0 ≤ n; omega, rfl⟩ (FU_lt (by show (n - 0).toNat < _; omega))
  · obtain ⟨r, e1, e2⟩ := main
    subst e2
    have e1 : s_X3_give_30 200 FU bytes bl buf n w gv 0 = some (kby bytes gv buf n.toNat) := e1
    unfold s_X3_give
    simp (disch := omega) only [cLt_t, cLt_f, cEq_t, cEq_f, cLtL_t, cLtL_f, cEqL_t, cEqL_f, cR_t, cRL_t, cZ_t, cN_t, cCp_t, rdA_t, ob_e, bd1_e, bd2_e, bd3_e, bd4_e, bd5_e, bd6_e, bd7_e, bd8_e, bd9_e, bd10_e, bd12_e, e1]
  · intro fu ⟨bs, i⟩ ⟨g1, g2, g3⟩
    have g1 : 0 ≤ i := g1
    have g2 : i ≤ n := g2
    have g3 : bs = kby bytes gv buf i.toNat := g3
    simp only [s_X3_give_30_s]
    by_cases h : i < n
    · right
      have ei : ((i.toNat : Nat) : Int) = i := by omega
      have es : (i + 1).toNat = i.toNat + 1 := by omega
      refine ⟨(upA bs (16 * gv + i) (buf i), i + 1), ⟨by show 0 ≤ i + 1; omega, by show i + 1 ≤ n; omega, ?_⟩, by show (n - (i + 1)).toNat < (n - i).toNat; omega, ?_⟩
      · show upA bs (16 * gv + i) (buf i) = kby bytes gv buf (i + 1).toNat
        rw [es]; unfold kby; rw [ei, g3]
      · simp (disch := omega) only [cLt_t, cLt_f, cEq_t, cEq_f, cLtL_t, cLtL_f, cEqL_t, cEqL_f, cR_t, cRL_t, cZ_t, cN_t, cCp_t, rdA_t, ob_e, bd1_e, bd2_e, bd3_e, bd4_e, bd5_e, bd6_e, bd7_e, bd8_e, bd9_e, bd10_e, bd12_e, X3_firstByteOf_e, X1_at_e, if_pos (show 0 ≤ i ∧ i < bl by omega)]
    · left
      refine ⟨bs, by simp (disch := omega) only [cLt_t, cLt_f, cEq_t, cEq_f, cLtL_t, cLtL_f, cEqL_t, cEqL_f, cR_t, cRL_t, cZ_t, cN_t, cCp_t, rdA_t, ob_e, bd1_e, bd2_e, bd3_e, bd4_e, bd5_e, bd6_e, bd7_e, bd8_e, bd9_e, bd10_e, bd12_e], ?_⟩
      rw [g3, show i.toNat = n.toNat by omega]
theorem X8_addKeyword_115_e {gv n : Int} {bytes buf : Int → Int} (h1 : 0 ≤ gv) (h2 : gv < 120) (hn1 : 1 ≤ n) (hn2 : n ≤ 16) : s_X8_addKeyword_115 FU gv buf bytes n 0 = some (kby bytes gv buf n.toNat) := by
  have main := loopR (fun fu (st : (Int → Int) × Int) => s_X8_addKeyword_115 fu gv buf st.1 n st.2) (fun st => (n - st.2).toNat) (fun st => 0 ≤ st.2 ∧ st.2 ≤ n ∧ st.1 = kby bytes gv buf st.2.toNat) (fun r => r = kby bytes gv buf n.toNat) ?_ FU (bytes, 0) ⟨Int.le_refl _, by show 0 ≤ n; omega, rfl⟩ (FU_lt (by show (n - 0).toNat < _; omega))
  · obtain ⟨r, e1, e2⟩ := main
    subst e2
    exact e1
  · intro fu ⟨bs, i⟩ ⟨g1, g2, g3⟩
    have g1 : 0 ≤ i := g1
    have g2 : i ≤ n := g2
    have g3 : bs = kby bytes gv buf i.toNat := g3
    simp only [s_X8_addKeyword_115_s]
    by_cases h : i < n
    · right
      have ei : ((i.toNat : Nat) : Int) = i := by omega
      have es : (i + 1).toNat = i.toNat + 1 := by omega
      refine ⟨(upA bs (16 * gv + i) (buf i), i + 1), ⟨by show 0 ≤ i + 1; omega, by show i + 1 ≤ n; omega, ?_⟩, by show (n - (i + 1)).toNat < (n - i).toNat; omega, ?_⟩
      · show upA bs (16 * gv + i) (buf i) = kby bytes gv buf (i + 1).toNat
        rw [es]; unfold kby; rw [ei, g3]
      · simp (disch := omega) only [cLt_t, cLt_f, cEq_t, cEq_f, cLtL_t, cLtL_f, cEqL_t, cEqL_f, cR_t, cRL_t, cZ_t, cN_t, cCp_t, rdA_t, ob_e, bd1_e, bd2_e, bd3_e, bd4_e, bd5_e, bd6_e, bd7_e, bd8_e, bd9_e, bd10_e, bd12_e]
    · left
      refine ⟨bs, by simp (disch := omega) only [cLt_t, cLt_f, cEq_t, cEq_f, cLtL_t, cLtL_f, cEqL_t, cEqL_f, cR_t, cRL_t, cZ_t, cN_t, cCp_t, rdA_t, ob_e, bd1_e, bd2_e, bd3_e, bd4_e, bd5_e, bd6_e, bd7_e, bd8_e, bd9_e, bd10_e, bd12_e], ?_⟩
      rw [g3, show i.toNat = n.toNat by omega]
theorem KW.add {gv n w : Int} {len bytes wt live buf : Int → Int} (hK : KW gv len bytes wt live) (h2 : gv < 120) (hX : TX buf n) (hw1 : 1 ≤ w) (hw2 : w ≤ 99) : KW (gv + 1) (upA len gv n) (kby bytes gv buf n.toNat) (upA wt gv w) (upA live gv 1) := by
  have h1 := hK.1
  have hn := hX.1
  refine ⟨by omega, by omega, fun k a b => ?_⟩
  by_cases hk : k = gv
  · subst hk
    rw [upA_s, upA_s, upA_s]
    refine ⟨hn, hX.2.1, hw1, hw2, Or.inr rfl, fun i c d => ?_⟩
    rw [kby_new _ c (by omega)]
    exact hX.2.2 i c d
  · rw [upA_n hk, upA_n hk, upA_n hk]
    have := hK.2.2 k a (by omega)
    refine ⟨this.1, this.2.1, this.2.2.1, this.2.2.2.1, this.2.2.2.2.1, fun i c d => ?_⟩
    rw [kby_old (by omega)]
    exact this.2.2.2.2.2 i c d
theorem kby_RE {on gv k n m p : Int} {bytes buf f : Int → Int} (hk : k < gv) (hm : m ≤ 16) : RE on (kby bytes gv buf n.toNat) (16 * k) f p m ↔ RE on bytes (16 * k) f p m := by
  constructor
  · intro q j a b
    have := q j a b
    rw [kby_old (by omega)] at this
    exact this
  · intro q j a b
    rw [kby_old (by omega)]
    exact q j a b
theorem LV.add {gv k : Int} {live : Int → Int} (h1 : 0 ≤ gv) : LV (gv + 1) (upA live gv 1) k ↔ LV gv live k ∨ k = gv := by
  constructor
  · intro ⟨a, b, c⟩
    by_cases h : k = gv
    · exact Or.inr h
    · rw [upA_n h] at c; exact Or.inl ⟨a, by omega, c⟩
  · intro q
    rcases q with ⟨a, b, c⟩ | rfl
    · exact ⟨a, by omega, by rw [upA_n (by omega)]; exact c⟩
    · exact ⟨h1, by omega, upA_s⟩
theorem DSJ.add {on gv n : Int} {len bytes wt live buf : Int → Int} (hK : KW gv len bytes wt live) (hd : DSJ on gv len bytes live) (hn : n ≤ 16) (hn1 : 0 ≤ n) (hf : ∀ k, 0 ≤ k → k < gv → ¬ PB on n len bytes live buf k) : DSJ on (gv + 1) (upA len gv n) (kby bytes gv buf n.toNat) (upA live gv 1) := by
  have h1 := hK.1
  have cross : ∀ b, LV gv live b → n = len b → ¬ RE on (kby bytes gv buf n.toNat) (16 * gv) (kby bytes gv buf n.toNat) (16 * b) n := by
    intro b hb e q
    refine hf b hb.1 hb.2.1 ⟨hb.2.2, e.symm, fun j x y => ?_⟩
    have := q j x y
    rw [kby_new _ x (by omega), kby_old (by have := hb.2.1; omega)] at this
    rw [Int.zero_add]
    exact this.symm
  intro a b ha hb e r
  rcases (LV.add h1).mp ha with ha | rfl
  · have hka := hK.2.2 a ha.1 ha.2.1
    rw [upA_n (by have := ha.2.1; omega)] at e r
    rcases (LV.add h1).mp hb with hb | rfl
    · rw [upA_n (by have := hb.2.1; omega)] at e
      refine hd a b ha hb e ?_
      have r1 := (kby_RE (gv := gv) (bytes := bytes) (buf := buf) (n := n) ha.2.1 (by omega)).mp r
      have r2 := (kby_RE (gv := gv) (bytes := bytes) (buf := buf) (n := n) hb.2.1 (by omega)).mp r1.symm
      exact r2.symm
    · rw [upA_s] at e
      rw [e] at r
      exact absurd r.symm (cross a ha e.symm)
  · rw [upA_s] at e r
    rcases (LV.add h1).mp hb with hb | rfl
    · rw [upA_n (by have := hb.2.1; omega)] at e
      exact absurd r (cross b hb e)
    · rfl
theorem X7_noteAllMatchesOf_e {gv on sl n w : Int} {len bytes wt live buf str words : Int → Int} (hK : KW gv len bytes wt live) (h2 : gv < 120) (hX : TX buf n) (hw1 : 1 ≤ w) (hw2 : w ≤ 99) (o1 : 0 ≤ on) (o2 : on ≤ 1) (hs1 : 0 ≤ sl) (hs2 : sl ≤ 600) (hS : RB str 0 600) (hT : TBI on gv len bytes live str sl words) : ∃ words2, s_X7_noteAllMatchesOf on (gv + 1) (kby bytes gv buf n.toNat) (upA len gv n) sl str words gv = some words2 ∧ TBI on (gv + 1) (upA len gv n) (kby bytes gv buf n.toNat) (upA live gv 1) str sl words2 := by
  have hK2 := hK.add h2 hX hw1 hw2
  have h1 := hK.1
  have hn1 := hX.1
  have hn2 := hX.2.1
  have main := loopR (fun fu (st : (Int → Int) × Int) => s_X7_noteAllMatchesOf_2 fu on (gv + 1) (kby bytes gv buf n.toNat) (upA len gv n) sl str st.1 gv st.2) (fun st => (sl - st.2).toNat) (fun st => 0 ≤ st.2 ∧ st.2 ≤ sl ∧ ∀ p l, 0 ≤ p → p < 600 → 1 ≤ l → l ≤ 16 → CE on (upA len gv n) (kby bytes gv buf n.toNat) str sl (fun k => LV gv live k ∨ (k = gv ∧ p < st.2)) p l (mt st.1 p l)) (fun w2 => TBI on (gv + 1) (upA len gv n) (kby bytes gv buf n.toNat) (upA live gv 1) str sl w2) ?_ FU (words, 0) ⟨Int.le_refl _, hs1, fun p l a b c d => ?_⟩ (FU_lt (by show (sl - 0).toNat < _; omega))
  · obtain ⟨w2, e1, e2⟩ := main
    have e1 : s_X7_noteAllMatchesOf_2 FU on (gv + 1) (kby bytes gv buf n.toNat) (upA len gv n) sl str words gv 0 = some w2 := e1
    unfold s_X7_noteAllMatchesOf
    exact ⟨w2, by simp (disch := omega) only [cLt_t, cLt_f, cEq_t, cEq_f, cLtL_t, cLtL_f, cEqL_t, cEqL_f, cR_t, cRL_t, cZ_t, cN_t, cCp_t, rdA_t, ob_e, bd1_e, bd2_e, bd3_e, bd4_e, bd5_e, bd6_e, bd7_e, bd8_e, bd9_e, bd10_e, bd12_e, e1], e2⟩
  · intro fu ⟨wo, s⟩ ⟨g1, g2, g3⟩
    have g1 : 0 ≤ s := g1
    have g2 : s ≤ sl := g2
    have g3 : ∀ p l, 0 ≤ p → p < 600 → 1 ≤ l → l ≤ 16 → CE on (upA len gv n) (kby bytes gv buf n.toNat) str sl (fun k => LV gv live k ∨ (k = gv ∧ p < s)) p l (mt wo p l) := g3
    simp only [s_X7_noteAllMatchesOf_2_s]
    by_cases h : s < sl
    · right
      obtain ⟨w2, f1, f2⟩ := X7_noteMatch_e (words := wo) (str := str) (sl := sl) (k := gv) (p := s) hK2 o1 o2 hs1 hs2 hS h1 (by omega) (by omega) (by omega)
      refine ⟨(w2, s + 1), ⟨by show 0 ≤ s + 1; omega, by show s + 1 ≤ sl; omega, fun p l a b c d => ?_⟩, by show (sl - (s + 1)).toNat < (sl - s).toNat; omega, ?_⟩
      · show CE on (upA len gv n) (kby bytes gv buf n.toNat) str sl (fun k => LV gv live k ∨ (k = gv ∧ p < s + 1)) p l (mt w2 p l)
        have old := g3 p l a b c d
        rcases f2 with ⟨n1, n2⟩ | ⟨n1, n2⟩
        · rw [n2]
          refine old.congr (fun j hj => ⟨fun q => ⟨q.1.elim Or.inl (fun z => Or.inr ⟨z.1, by have := z.2; omega⟩), q.2⟩, fun q => ⟨q.1.elim Or.inl (fun z => ?_), q.2⟩⟩)
          by_cases e : p = s
          · rw [z.1, e] at q; exact absurd q.2 n1
          · exact Or.inr ⟨z.1, by have := z.2; omega⟩
        · rw [n2 p l a b c d]
          by_cases e : p = s ∧ l = upA len gv n gv
          · rw [if_pos e]
            exact Or.inr ⟨h1, Or.inr ⟨rfl, by show p < s + 1; omega⟩, e.2.symm, by rw [e.1]; exact n1⟩
          · rw [if_neg e]
            refine old.congr (fun j hj => ⟨fun q => ⟨q.1.elim Or.inl (fun z => Or.inr ⟨z.1, by have := z.2; omega⟩), q.2⟩, fun q => ⟨q.1.elim Or.inl (fun z => ?_), q.2⟩⟩)
            by_cases e2 : p = s
            · exact absurd ⟨e2, by rw [← hj, z.1]⟩ e
            · exact Or.inr ⟨z.1, by have := z.2; omega⟩
      · simp (disch := omega) only [cLt_t, cLt_f, cEq_t, cEq_f, cLtL_t, cLtL_f, cEqL_t, cEqL_f, cR_t, cRL_t, cZ_t, cN_t, cCp_t, rdA_t, ob_e, bd1_e, bd2_e, bd3_e, bd4_e, bd5_e, bd6_e, bd7_e, bd8_e, bd9_e, bd10_e, bd12_e, f1]
    · left
      refine ⟨wo, by simp (disch := omega) only [cLt_t, cLt_f, cEq_t, cEq_f, cLtL_t, cLtL_f, cEqL_t, cEqL_f, cR_t, cRL_t, cZ_t, cN_t, cCp_t, rdA_t, ob_e, bd1_e, bd2_e, bd3_e, bd4_e, bd5_e, bd6_e, bd7_e, bd8_e, bd9_e, bd10_e, bd12_e], fun p l a b c d => ?_⟩
      refine (g3 p l a b c d).congr (fun j hj => ⟨fun q => ⟨(LV.add h1).mpr (q.1.elim Or.inl (fun z => Or.inr z.1)), q.2⟩, fun q => ⟨((LV.add h1).mp q.1).elim Or.inl (fun z => Or.inr ⟨z, ?_⟩), q.2⟩⟩)
      have := q.2.2.1
      rw [z, upA_s] at this
      omega
  · show CE on (upA len gv n) (kby bytes gv buf n.toNat) str sl (fun k => LV gv live k ∨ (k = gv ∧ p < 0)) p l (mt words p l)
    have old : CE on (upA len gv n) (kby bytes gv buf n.toNat) str sl (LV gv live) p l (mt words p l) := by
      refine (hT p l a b c d).move (fun k hk => upA_n (by have := hk.2.1; omega)) (fun k hk => ?_)
      have hkk := hK.2.2 k hk.1 hk.2.1
      unfold MA
      rw [upA_n (show k ≠ gv by have := hk.2.1; omega), kby_RE hk.2.1 (by omega)]
    exact old.congr (fun j hj => ⟨fun q => ⟨Or.inl q.1, q.2⟩, fun q => ⟨q.1.elim id (fun z => by have := z.2; omega), q.2⟩⟩)
theorem X7_dropAllMatchesOf_e {gv on sl k : Int} {len bytes wt live str words : Int → Int} (hK : KW gv len bytes wt live) (hd : DSJ on gv len bytes live) (hs1 : 0 ≤ sl) (hs2 : sl ≤ 600) (hk : LV gv live k) (hT : TBI on gv len bytes live str sl words) : ∃ words2, s_X7_dropAllMatchesOf gv len sl words k = some words2 ∧ TBI on gv len bytes (upA live k 0) str sl words2 := by
  have hg := hK.2.1
  have hkk := hK.2.2 k hk.1 hk.2.1
  have hk1 := hk.1
  have hk2 := hk.2.1
  have main := loopR (fun fu (st : (Int → Int) × Int) => s_X7_dropAllMatchesOf_11 fu sl st.1 k (len k) st.2) (fun st => (sl - st.2).toNat) (fun st => 0 ≤ st.2 ∧ st.2 ≤ sl ∧ ∀ p l, 0 ≤ p → p < 600 → 1 ≤ l → l ≤ 16 → CE on len bytes str sl (fun j => LV gv live j ∧ (j = k → st.2 ≤ p)) p l (mt st.1 p l)) (fun w2 => TBI on gv len bytes (upA live k 0) str sl w2) ?_ FU (words, 0) ⟨Int.le_refl _, hs1, fun p l a b c d => ?_⟩ (FU_lt (by show (sl - 0).toNat < _; omega))
  · obtain ⟨w2, e1, e2⟩ := main
    have e1 : s_X7_dropAllMatchesOf_11 FU sl words k (len k) 0 = some w2 := e1
    unfold s_X7_dropAllMatchesOf
    exact ⟨w2, by simp (disch := omega) only [cLt_t, cLt_f, cEq_t, cEq_f, cLtL_t, cLtL_f, cEqL_t, cEqL_f, cR_t, cRL_t, cZ_t, cN_t, cCp_t, rdA_t, ob_e, bd1_e, bd2_e, bd3_e, bd4_e, bd5_e, bd6_e, bd7_e, bd8_e, bd9_e, bd10_e, bd12_e, X3_lengthOf_e, e1], e2⟩
  · intro fu ⟨wo, s⟩ ⟨g1, g2, g3⟩
    have g1 : 0 ≤ s := g1
    have g2 : s ≤ sl := g2
    have g3 : ∀ p l, 0 ≤ p → p < 600 → 1 ≤ l → l ≤ 16 → CE on len bytes str sl (fun j => LV gv live j ∧ (j = k → s ≤ p)) p l (mt wo p l) := g3
    simp only [s_X7_dropAllMatchesOf_11_s]
    by_cases h : s < sl
    · right
      have hat : s_X5_at wo s (len k) = some (mt wo s (len k)) := by
        rw [X5_at_e (by omega) (by omega) (by omega) (by omega), if_pos (by omega)]
      have hmr := mt_rg (words := wo) (p := s) (l := len k)
      have here := g3 s (len k) g1 (by omega) (by omega) (by omega)
      by_cases e : mt wo s (len k) = k
      · obtain ⟨w2, f1, f2⟩ := X5_put_e (words := wo) (p := s) (l := len k) (k := -1) (by omega) (by omega) (by omega) (by omega) (by omega) (by omega)
        refine ⟨(w2, s + 1), ⟨by show 0 ≤ s + 1; omega, by show s + 1 ≤ sl; omega, fun p l a b c d => ?_⟩, by show (sl - (s + 1)).toNat < (sl - s).toNat; omega, ?_⟩
        · show CE on len bytes str sl (fun j => LV gv live j ∧ (j = k → s + 1 ≤ p)) p l (mt w2 p l)
          rw [f2 p l a b c d]
          by_cases z : p = s ∧ l = len k
          · rw [if_pos z]
            refine Or.inl ⟨rfl, fun j q hj hm => ?_⟩
            rw [z.1] at hm
            have hx := here.eq hd (fun i hi => hi.1) (k := j) ⟨q.1, fun _ => by omega⟩ (by omega) hm
            have := q.2 (by omega)
            omega
          · rw [if_neg z]
            refine (g3 p l a b c d).congr (fun j hj => ⟨fun q => ⟨⟨q.1.1, fun y => ?_⟩, q.2⟩, fun q => ⟨⟨q.1.1, fun y => by have := q.1.2 y; omega⟩, q.2⟩⟩)
            have := q.1.2 y
            by_cases e2 : p = s
            · exact absurd ⟨e2, by rw [← hj, y]⟩ z
            · omega
        · simp (disch := omega) only [cLt_t, cLt_f, cEq_t, cEq_f, cLtL_t, cLtL_f, cEqL_t, cEqL_f, cR_t, cRL_t, cZ_t, cN_t, cCp_t, rdA_t, ob_e, bd1_e, bd2_e, bd3_e, bd4_e, bd5_e, bd6_e, bd7_e, bd8_e, bd9_e, bd10_e, bd12_e, hat, f1]
      · refine ⟨(wo, s + 1), ⟨by show 0 ≤ s + 1; omega, by show s + 1 ≤ sl; omega, fun p l a b c d => ?_⟩, by show (sl - (s + 1)).toNat < (sl - s).toNat; omega, ?_⟩
        · show CE on len bytes str sl (fun j => LV gv live j ∧ (j = k → s + 1 ≤ p)) p l (mt wo p l)
          refine (g3 p l a b c d).congr (fun j hj => ⟨fun q => ⟨⟨q.1.1, fun y => ?_⟩, q.2⟩, fun q => ⟨⟨q.1.1, fun y => by have := q.1.2 y; omega⟩, q.2⟩⟩)
          have := q.1.2 y
          by_cases e2 : p = s
          · have hm := q.2
            rw [e2, y] at hm
            exact absurd (here.eq hd (fun i hi => hi.1) (k := k) ⟨hk, fun _ => by omega⟩ rfl hm) e
          · omega
        · simp (disch := omega) only [cLt_t, cLt_f, cEq_t, cEq_f, cLtL_t, cLtL_f, cEqL_t, cEqL_f, cR_t, cRL_t, cZ_t, cN_t, cCp_t, rdA_t, ob_e, bd1_e, bd2_e, bd3_e, bd4_e, bd5_e, bd6_e, bd7_e, bd8_e, bd9_e, bd10_e, bd12_e, hat]
    · left
      refine ⟨wo, by simp (disch := omega) only [cLt_t, cLt_f, cEq_t, cEq_f, cLtL_t, cLtL_f, cEqL_t, cEqL_f, cR_t, cRL_t, cZ_t, cN_t, cCp_t, rdA_t, ob_e, bd1_e, bd2_e, bd3_e, bd4_e, bd5_e, bd6_e, bd7_e, bd8_e, bd9_e, bd10_e, bd12_e], fun p l a b c d => ?_⟩
      refine (g3 p l a b c d).congr (fun j hj => ⟨fun q => ⟨⟨q.1.1.1, q.1.1.2.1, ?_⟩, q.2⟩, fun q => ?_⟩)
      · by_cases y : j = k
        · have h8 := q.1.2 y
          have h9 := q.2.2.1
          rw [y] at h9
          omega
        · rw [upA_n y]; exact q.1.1.2.2
      · by_cases y : j = k
        · have := q.1.2.2
          rw [y, upA_s] at this
          omega
        · have h8 := q.1.2.2
          rw [upA_n y] at h8
          exact ⟨⟨⟨q.1.1, q.1.2.1, h8⟩, fun z => absurd z y⟩, q.2⟩
  · show CE on len bytes str sl (fun j => LV gv live j ∧ (j = k → 0 ≤ p)) p l (mt words p l)
    exact (hT p l a b c d).congr (fun j hj => ⟨fun q => ⟨⟨q.1, fun _ => a⟩, q.2⟩, fun q => ⟨q.1.1, q.2⟩⟩)
theorem DSJ.kill {on gv k : Int} {len bytes live : Int → Int} (hd : DSJ on gv len bytes live) : DSJ on gv len bytes (upA live k 0) := by
  have back : ∀ j, LV gv (upA live k 0) j → LV gv live j := fun j h => by
    by_cases y : j = k
    · have := h.2.2
      rw [y, upA_s] at this
      omega
    · have h8 := h.2.2
      rw [upA_n y] at h8
      exact ⟨h.1, h.2.1, h8⟩
  exact fun a b ha hb => hd a b (back a ha) (back b hb)
theorem KW.kill {gv k : Int} {len bytes wt live : Int → Int} (hK : KW gv len bytes wt live) : KW gv len bytes wt (upA live k 0) := ⟨hK.1, hK.2.1, fun j a b => by
  have := hK.2.2 j a b
  refine ⟨this.1, this.2.1, this.2.2.1, this.2.2.2.1, ?_, this.2.2.2.2.2⟩
  by_cases y : j = k
  · rw [y, upA_s]; exact Or.inl rfl
  · rw [upA_n y]; exact this.2.2.2.2.1⟩
/-- how many are in each set -/
def CN (al mc rc : Int) : Prop := 0 ≤ al ∧ al ≤ 40 ∧ mc = al + rc ∧ 0 ≤ rc ∧ (rc = 0 ∨ 2 * rc < mc)
theorem sz_sumF : ∀ c : Fin 128, szc (c.val : Int) 0 + szc (c.val : Int) 1 + szc (c.val : Int) 2 + szc (c.val : Int) 3 + szc (c.val : Int) 4 + szc (c.val : Int) 5 + szc (c.val : Int) 6 = (c.val : Int) := by decide +kernel
theorem X8_sizeOf_e {o c : Int} {mem size list : Int → Int} (ho : o = 0 ∨ o = 7) (h1 : 0 ≤ c) (h2 : c < 128) (hB : BK o c mem size list) : s_X8_sizeOf size o = some c := by
  have main := loopR (fun fu (st : Int × Int) => s_X8_sizeOf_4 fu size o st.1 st.2) (fun st => (o + 7 - st.2).toNat) (fun st => o ≤ st.2 ∧ st.2 ≤ o + 7 ∧ st.1 = sm (fun i => szc c (i : Int)) (st.2 - o).toNat) (fun r => r = sm (fun i => szc c (i : Int)) 7) ?_ FU (0, o) ⟨Int.le_refl _, by show o ≤ o + 7; omega, by show (0 : Int) = sm _ (o - o).toNat; rw [show (o - o).toNat = 0 by omega]; rfl⟩ (FU_lt (by show (o + 7 - o).toNat < _; omega))
  · obtain ⟨r, e1, e2⟩ := main
    have e1 : s_X8_sizeOf_4 FU size o 0 o = some r := e1
    have e3 : sm (fun i => szc c (i : Int)) 7 = c := by
      obtain ⟨a, rfl⟩ := Int.eq_ofNat_of_zero_le h1
      have := sz_sumF ⟨a, by omega⟩
      have this : szc (a : Int) 0 + szc (a : Int) 1 + szc (a : Int) 2 + szc (a : Int) 3 + szc (a : Int) 4 + szc (a : Int) 5 + szc (a : Int) 6 = (a : Int) := this
      show 0 + szc (a : Int) 0 + szc (a : Int) 1 + szc (a : Int) 2 + szc (a : Int) 3 + szc (a : Int) 4 + szc (a : Int) 5 + szc (a : Int) 6 = (a : Int)
      omega
    unfold s_X8_sizeOf
    simp (disch := omega) only [cLt_t, cLt_f, cEq_t, cEq_f, cLtL_t, cLtL_f, cEqL_t, cEqL_f, cR_t, cRL_t, cZ_t, cN_t, cCp_t, rdA_t, ob_e, bd1_e, bd2_e, bd3_e, bd4_e, bd5_e, bd6_e, bd7_e, bd8_e, bd9_e, bd10_e, bd12_e, e1]
    rw [e2, e3]
  · intro fu ⟨t, l⟩ ⟨g1, g2, g3⟩
    have g1 : o ≤ l := g1
    have g2 : l ≤ o + 7 := g2
    have g3 : t = sm (fun i => szc c (i : Int)) (l - o).toNat := g3
    simp only [s_X8_sizeOf_4_s]
    by_cases h : l < o + 7
    · right
      have hb := (hB (l - o) (by omega) (by omega)).1
      rw [show o + (l - o) = l by omega] at hb
      have es : (l + 1 - o).toNat = (l - o).toNat + 1 := by omega
      have el : (((l - o).toNat : Nat) : Int) = l - o := by omega
      refine ⟨(t + size l, l + 1), ⟨by show o ≤ l + 1; omega, by show l + 1 ≤ o + 7; omega, ?_⟩, by show (o + 7 - (l + 1)).toNat < (o + 7 - l).toNat; omega, ?_⟩
      · show t + size l = sm _ (l + 1 - o).toNat
        rw [es]; unfold sm; rw [el, g3, hb]
      · simp (disch := omega) only [cLt_t, cLt_f, cEq_t, cEq_f, cLtL_t, cLtL_f, cEqL_t, cEqL_f, cR_t, cRL_t, cZ_t, cN_t, cCp_t, rdA_t, ob_e, bd1_e, bd2_e, bd3_e, bd4_e, bd5_e, bd6_e, bd7_e, bd8_e, bd9_e, bd10_e, bd12_e]
    · left
      refine ⟨t, by simp (disch := omega) only [cLt_t, cLt_f, cEq_t, cEq_f, cLtL_t, cLtL_f, cEqL_t, cEqL_f, cR_t, cRL_t, cZ_t, cN_t, cCp_t, rdA_t, ob_e, bd1_e, bd2_e, bd3_e, bd4_e, bd5_e, bd6_e, bd7_e, bd8_e, bd9_e, bd10_e, bd12_e], ?_⟩
      rw [g3, show (l - o).toNat = 7 by omega]
