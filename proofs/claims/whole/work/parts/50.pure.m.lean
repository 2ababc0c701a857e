/-! ===== matches and their table ===== -/
def MA (on : Int) (len bytes str : Int → Int) (sl k p : Int) : Prop := 0 ≤ p ∧ p + len k ≤ sl ∧ RE on bytes (16 * k) str p (len k)
def LV (gv : Int) (live : Int → Int) (k : Int) : Prop := 0 ≤ k ∧ k < gv ∧ live k = 1
/-- no two live keywords are equal -/
def DSJ (on gv : Int) (len bytes live : Int → Int) : Prop := ∀ a b, LV gv live a → LV gv live b → len a = len b → RE on bytes (16 * a) bytes (16 * b) (len a) → a = b
/-- what one cell of the table holds, for the keywords of a kind -/
def CE (on : Int) (len bytes str : Int → Int) (sl : Int) (K : Int → Prop) (p l x : Int) : Prop := (x = -1 ∧ ∀ k, K k → len k = l → ¬ MA on len bytes str sl k p) ∨ (0 ≤ x ∧ K x ∧ len x = l ∧ MA on len bytes str sl x p)
def TBI (on gv : Int) (len bytes live str : Int → Int) (sl : Int) (words : Int → Int) : Prop := ∀ p l, 0 ≤ p → p < 600 → 1 ≤ l → l ≤ 16 → CE on len bytes str sl (LV gv live) p l (mt words p l)
theorem CE.congr {on sl sl2 p l x : Int} {len bytes str str2 : Int → Int} {K K2 : Int → Prop} (h : CE on len bytes str sl K p l x) (e : ∀ k, len k = l → ((K k ∧ MA on len bytes str sl k p) ↔ (K2 k ∧ MA on len bytes str2 sl2 k p))) : CE on len bytes str2 sl2 K2 p l x := by
  rcases h with ⟨h1, h2⟩ | ⟨h1, h2, h3, h4⟩
  · exact Or.inl ⟨h1, fun k a b c => by have := (e k b).mpr ⟨a, c⟩; exact h2 k this.1 b this.2⟩
  · have := (e x h3).mp ⟨h2, h4⟩
    exact Or.inr ⟨h1, this.1, h3, this.2⟩
theorem MA.same {on sl p j k : Int} {len bytes str : Int → Int} (h : MA on len bytes str sl j p) (g : MA on len bytes str sl k p) (e : len j = len k) : RE on bytes (16 * j) bytes (16 * k) (len j) := by
  have g2 := g.2.2
  rw [← e] at g2
  exact h.2.2.trans g2.symm
theorem CE.eq {on gv sl p l x k : Int} {len bytes live str : Int → Int} {K : Int → Prop} (hd : DSJ on gv len bytes live) (h : CE on len bytes str sl K p l x) (hK : ∀ j, K j → LV gv live j) (hk : K k) (hl : len k = l) (hm : MA on len bytes str sl k p) : x = k := by
  rcases h with ⟨-, h2⟩ | ⟨h1, h2, h3, h4⟩
  · exact absurd hm (h2 k hk hl)
  · exact hd x k (hK x h2) (hK k hk) (by omega) (h4.same hm (by omega))
theorem CE.uniq {on gv sl p l x y : Int} {len bytes live str : Int → Int} {K : Int → Prop} (hd : DSJ on gv len bytes live) (hK : ∀ j, K j → LV gv live j) (h : CE on len bytes str sl K p l x) (g : CE on len bytes str sl K p l y) : x = y := by
  rcases g with ⟨g1, g2⟩ | ⟨g1, g2, g3, g4⟩
  · rcases h with ⟨h1, h2⟩ | ⟨h1, h2, h3, h4⟩
    · omega
    · exact absurd h4 (g2 x h2 h3)
  · exact h.eq hd hK g2 g3 g4
theorem RE.up {on n a b p v : Int} {f str : Int → Int} (h : b + n ≤ p) : RE on f a (upA str p v) b n ↔ RE on f a str b n := by
  constructor
  · intro q j x y
    have := q j x y
    rw [upA_n (by omega)] at this
    exact this
  · intro q j x y
    rw [upA_n (by omega)]
    exact q j x y
theorem X7_noteMatch_e {gv on sl k p : Int} {len bytes wt live str words : Int → Int} (hK : KW gv len bytes wt live) (o1 : 0 ≤ on) (o2 : on ≤ 1) (hs1 : 0 ≤ sl) (hs2 : sl ≤ 600) (hS : RB str 0 600) (hk1 : 0 ≤ k) (hk2 : k < gv) (hp1 : -1000 ≤ p) (hp2 : p ≤ 1000) : ∃ words2, s_X7_noteMatch on gv bytes len sl str words k p = some words2 ∧ ((¬ MA on len bytes str sl k p ∧ words2 = words) ∨ (MA on len bytes str sl k p ∧ ∀ q m, 0 ≤ q → q < 600 → 1 ≤ m → m ≤ 16 → mt words2 q m = if q = p ∧ m = len k then k else mt words q m)) := by
  have hg := hK.2.1
  have hk := hK.2.2 k hk1 hk2
  obtain ⟨r, e1, e2⟩ := X3_standsAt_e (m := 600) (tb := str) (tl := sl) (p := p) hK o1 o2 (by omega) hk1 hk2 hs1 (by omega) (fun j a b => hS j a (by omega)) (by omega) (by omega)
  unfold s_X7_noteMatch
  rcases e2 with ⟨r1, r2⟩ | ⟨r1, r2⟩
  · have r3 := r2.1
    have r4 := r2.2.1
    obtain ⟨w2, f1, f2⟩ := X5_put_e (words := words) (p := p) (l := len k) (k := k) (by omega) (by omega) (by omega) (by omega) (by omega) (by omega)
    exact ⟨w2, by simp (disch := omega) only [cLt_t, cLt_f, cEq_t, cEq_f, cLtL_t, cLtL_f, cEqL_t, cEqL_f, cR_t, cRL_t, cZ_t, cN_t, cCp_t, rdA_t, ob_e, bd1_e, bd2_e, bd3_e, bd4_e, bd5_e, bd6_e, bd7_e, bd8_e, bd9_e, bd10_e, bd12_e, e1, X3_lengthOf_e, f1], Or.inr ⟨r2, f2⟩⟩
  · exact ⟨words, by simp (disch := omega) only [cLt_t, cLt_f, cEq_t, cEq_f, cLtL_t, cLtL_f, cEqL_t, cEqL_f, cR_t, cRL_t, cZ_t, cN_t, cCp_t, rdA_t, ob_e, bd1_e, bd2_e, bd3_e, bd4_e, bd5_e, bd6_e, bd7_e, bd8_e, bd9_e, bd10_e, bd12_e, e1], Or.inl ⟨r2, rfl⟩⟩
theorem X7_noteMatchesAtEnd_e {gv on sl v : Int} {len bytes wt live str words : Int → Int} (hK : KW gv len bytes wt live) (hd : DSJ on gv len bytes live) (o1 : 0 ≤ on) (o2 : on ≤ 1) (hs1 : 0 ≤ sl) (hs2 : sl < 600) (hS : RB str 0 600) (hv1 : 0 ≤ v) (hv2 : v < 256) (hT : TBI on gv len bytes live str sl words) : ∃ words2, s_X7_noteMatchesAtEnd on gv bytes len live (sl + 1) (upA str sl v) words = some words2 ∧ TBI on gv len bytes live (upA str sl v) (sl + 1) words2 := by
  have hg0 := hK.1
  have hg := hK.2.1
  have hS2 : RB (upA str sl v) 0 600 := fun j a b => by
    by_cases h : 0 + j = sl
    · rw [h, upA_s]; omega
    · rw [upA_n h]; exact hS j a b
  have main := loopR (fun fu (st : (Int → Int) × Int) => s_X7_noteMatchesAtEnd_2 fu on gv bytes len live (sl + 1) (upA str sl v) st.1 st.2) (fun st => (gv - st.2).toNat) (fun st => 0 ≤ st.2 ∧ st.2 ≤ gv ∧ ∀ p l, 0 ≤ p → p < 600 → 1 ≤ l → l ≤ 16 → CE on len bytes (upA str sl v) (sl + 1) (fun k => LV gv live k ∧ (p + l = sl + 1 → k < st.2)) p l (mt st.1 p l)) (fun w2 => TBI on gv len bytes live (upA str sl v) (sl + 1) w2) ?_ FU (words, 0) ⟨Int.le_refl _, hg0, fun p l a b c d => ?_⟩ (FU_lt (by show (gv - 0).toNat < _; omega))
  · obtain ⟨w2, e1, e2⟩ := main
    have e1 : s_X7_noteMatchesAtEnd_2 FU on gv bytes len live (sl + 1) (upA str sl v) words 0 = some w2 := e1
    unfold s_X7_noteMatchesAtEnd
    exact ⟨w2, by simp (disch := omega) only [cLt_t, cLt_f, cEq_t, cEq_f, cLtL_t, cLtL_f, cEqL_t, cEqL_f, cR_t, cRL_t, cZ_t, cN_t, cCp_t, rdA_t, ob_e, bd1_e, bd2_e, bd3_e, bd4_e, bd5_e, bd6_e, bd7_e, bd8_e, bd9_e, bd10_e, bd12_e, e1], e2⟩
  · intro fu ⟨w, k⟩ ⟨g1, g2, g3⟩
    have g1 : 0 ≤ k := g1
    have g2 : k ≤ gv := g2
    have g3 : ∀ p l, 0 ≤ p → p < 600 → 1 ≤ l → l ≤ 16 → CE on len bytes (upA str sl v) (sl + 1) (fun j => LV gv live j ∧ (p + l = sl + 1 → j < k)) p l (mt w p l) := g3
    simp only [s_X7_noteMatchesAtEnd_2_s]
    by_cases h : k < gv
    · right
      have hk := hK.2.2 k g1 h
      by_cases hl : live k = 1
      · obtain ⟨w2, f1, f2⟩ := X7_noteMatch_e (words := w) (str := upA str sl v) (sl := sl + 1) (k := k) (p := sl + 1 - len k) hK o1 o2 (by omega) (by omega) hS2 g1 h (by omega) (by omega)
        refine ⟨(w2, k + 1), ⟨by show 0 ≤ k + 1; omega, by show k + 1 ≤ gv; omega, fun p l a b c d => ?_⟩, by show (gv - (k + 1)).toNat < (gv - k).toNat; omega, ?_⟩
        · show CE on len bytes (upA str sl v) (sl + 1) (fun j => LV gv live j ∧ (p + l = sl + 1 → j < k + 1)) p l (mt w2 p l)
          have old := g3 p l a b c d
          rcases f2 with ⟨n1, n2⟩ | ⟨n1, n2⟩
          · rw [n2]
            refine old.congr (fun j hj => ⟨fun q => ⟨⟨q.1.1, fun z => by have := q.1.2 z; omega⟩, q.2⟩, fun q => ⟨⟨q.1.1, fun z => ?_⟩, q.2⟩⟩)
            by_cases e : j = k
            · subst e
              exact absurd (by rw [show sl + 1 - len j = p by omega]; exact q.2) n1
            · have := q.1.2 z; omega
          · rw [n2 p l a b c d]
            by_cases e : p = sl + 1 - len k ∧ l = len k
            · rw [if_pos e]
              exact Or.inr ⟨g1, ⟨⟨g1, h, hl⟩, fun _ => by omega⟩, e.2.symm, by rw [e.1]; exact n1⟩
            · rw [if_neg e]
              refine old.congr (fun j hj => ⟨fun q => ⟨⟨q.1.1, fun z => by have := q.1.2 z; omega⟩, q.2⟩, fun q => ⟨⟨q.1.1, fun z => ?_⟩, q.2⟩⟩)
              by_cases e2 : j = k
              · subst e2; exact absurd ⟨by omega, by omega⟩ e
              · have := q.1.2 z; omega
        · simp (disch := omega) only [cLt_t, cLt_f, cEq_t, cEq_f, cLtL_t, cLtL_f, cEqL_t, cEqL_f, cR_t, cRL_t, cZ_t, cN_t, cCp_t, rdA_t, ob_e, bd1_e, bd2_e, bd3_e, bd4_e, bd5_e, bd6_e, bd7_e, bd8_e, bd9_e, bd10_e, bd12_e, X3_isAlive_e, if_pos (show 0 ≤ k ∧ k < gv ∧ live k = 1 from ⟨g1, h, hl⟩), X3_lengthOf_e, f1]
      · refine ⟨(w, k + 1), ⟨by show 0 ≤ k + 1; omega, by show k + 1 ≤ gv; omega, fun p l a b c d => ?_⟩, by show (gv - (k + 1)).toNat < (gv - k).toNat; omega, ?_⟩
        · show CE on len bytes (upA str sl v) (sl + 1) (fun j => LV gv live j ∧ (p + l = sl + 1 → j < k + 1)) p l (mt w p l)
          refine (g3 p l a b c d).congr (fun j hj => ⟨fun q => ⟨⟨q.1.1, fun z => by have := q.1.2 z; omega⟩, q.2⟩, fun q => ⟨⟨q.1.1, fun z => ?_⟩, q.2⟩⟩)
          by_cases e2 : j = k
          · subst e2; exact absurd q.1.1.2.2 hl
          · have := q.1.2 z; omega
        · simp (disch := omega) only [cLt_t, cLt_f, cEq_t, cEq_f, cLtL_t, cLtL_f, cEqL_t, cEqL_f, cR_t, cRL_t, cZ_t, cN_t, cCp_t, rdA_t, ob_e, bd1_e, bd2_e, bd3_e, bd4_e, bd5_e, bd6_e, bd7_e, bd8_e, bd9_e, bd10_e, bd12_e, X3_isAlive_e, if_neg (show ¬ (0 ≤ k ∧ k < gv ∧ live k = 1) from fun q => hl q.2.2)]
    · left
      refine ⟨w, by simp (disch := omega) only [cLt_t, cLt_f, cEq_t, cEq_f, cLtL_t, cLtL_f, cEqL_t, cEqL_f, cR_t, cRL_t, cZ_t, cN_t, cCp_t, rdA_t, ob_e, bd1_e, bd2_e, bd3_e, bd4_e, bd5_e, bd6_e, bd7_e, bd8_e, bd9_e, bd10_e, bd12_e], fun p l a b c d => ?_⟩
      exact (g3 p l a b c d).congr (fun j hj => ⟨fun q => ⟨q.1.1, q.2⟩, fun q => ⟨⟨q.1, fun z => by have := q.1.2.1; omega⟩, q.2⟩⟩)
  · show CE on len bytes (upA str sl v) (sl + 1) (fun j => LV gv live j ∧ (p + l = sl + 1 → j < 0)) p l (mt words p l)
    refine (hT p l a b c d).congr (fun j hj => ⟨fun q => ⟨⟨q.1, fun z => by have := q.2.2.1; omega⟩, q.2.1, by have := q.2.2.1; omega, (RE.up (by have := q.2.2.1; omega)).mpr q.2.2.2⟩, fun q => ⟨q.1.1, q.2.1, ?_, ?_⟩⟩)
    · have h5 := q.2.2.1
      by_cases z : p + l = sl + 1
      · have := q.1.2 z; have := q.1.1.1; omega
      · omega
    · have h5 := q.2.2.1
      have h6 : p + len j ≤ sl := by
        by_cases z : p + l = sl + 1
        · have := q.1.2 z; have := q.1.1.1; omega
        · omega
      exact (RE.up h6).mp q.2.2.2
/-- one report more, or none (x = -1) -/
def RSr (rep x : Int) : Int := if x = -1 then rep else rep + 1
def RSa (rep x : Int) (f : Int → Int) (v : Int) : Int → Int := if x = -1 then f else if rep < 300 then upA f rep v else f
theorem X8_reports_9_e {gv on sl n e rep : Int} {len bytes wt live str rE rK : Int → Int} (hK : KW gv len bytes wt live) (hd : DSJ on gv len bytes live) (o1 : 0 ≤ on) (o2 : on ≤ 1) (hs1 : 0 ≤ sl) (hs2 : sl ≤ 600) (hS : RB str 0 600) (hn1 : 1 ≤ n) (hn2 : n ≤ 16) (he1 : 0 ≤ e) (he2 : e < 600) (hr1 : 0 ≤ rep) (hr2 : rep ≤ 1000000000) : ∃ x, s_X8_reports_9 FU gv on sl rep len bytes live str rE rK e n 0 = some (RSr rep x, RSa rep x rE e, RSa rep x rK x) ∧ CE on len bytes str sl (LV gv live) (e - n + 1) n x := by
  have hg0 := hK.1
  have hg := hK.2.1
  have main := loopR (fun fu (st : Int × (Int → Int) × (Int → Int) × Int) => s_X8_reports_9 fu gv on sl st.1 len bytes live str st.2.1 st.2.2.1 e n st.2.2.2) (fun st => (gv - st.2.2.2).toNat) (fun st => 0 ≤ st.2.2.2 ∧ st.2.2.2 ≤ gv ∧ ∃ x, st.1 = RSr rep x ∧ st.2.1 = RSa rep x rE e ∧ st.2.2.1 = RSa rep x rK x ∧ CE on len bytes str sl (fun k => LV gv live k ∧ k < st.2.2.2) (e - n + 1) n x) (fun r => ∃ x, r = (RSr rep x, RSa rep x rE e, RSa rep x rK x) ∧ CE on len bytes str sl (LV gv live) (e - n + 1) n x) ?_ FU (rep, rE, rK, 0) ⟨Int.le_refl _, hg0, -1, rfl, rfl, rfl, Or.inl ⟨rfl, fun k q => by have : k < 0 := q.2; have := q.1.1; omega⟩⟩ (FU_lt (by show (gv - 0).toNat < _; omega))
  · obtain ⟨r, e1, x, e2, e3⟩ := main
    subst e2
    exact ⟨x, e1, e3⟩
  · intro fu ⟨rp, fE, fK, k⟩ ⟨g1, g2, x, g3, g4, g5, g6⟩
    have g1 : 0 ≤ k := g1
    have g2 : k ≤ gv := g2
    have g3 : rp = RSr rep x := g3
    have g4 : fE = RSa rep x rE e := g4
    have g5 : fK = RSa rep x rK x := g5
    have g6 : CE on len bytes str sl (fun j => LV gv live j ∧ j < k) (e - n + 1) n x := g6
    simp only [s_X8_reports_9_s]
    by_cases h : k < gv
    · right
      have hk := hK.2.2 k g1 h
      have skip : ¬ (LV gv live k ∧ len k = n ∧ MA on len bytes str sl k (e - n + 1)) → CE on len bytes str sl (fun j => LV gv live j ∧ j < k + 1) (e - n + 1) n x := fun hn => g6.congr (fun j hj => ⟨fun q => ⟨⟨q.1.1, by have := q.1.2; omega⟩, q.2⟩, fun q => ⟨⟨q.1.1, by
        by_cases e2 : j = k
        · subst e2; exact absurd ⟨q.1.1, hj, q.2⟩ hn
        · have := q.1.2; omega⟩, q.2⟩⟩)
      by_cases hl : live k = 1
      · by_cases hn : len k = n
        · obtain ⟨z, z1, z2⟩ := X8_isInStream_e (on := on) (sl := sl) (k := k) (a := e - n + 1) (n := n) (bytes := bytes) (str := str) o1 o2 g1 (by omega) (by omega) (by omega) hs1 hs2 (by omega) (by omega) (hK.rb g1 h (by omega)) (fun j a b => hS j a (by omega))
          rcases z2 with ⟨y1, y2⟩ | ⟨y1, y2⟩
          · have hm : MA on len bytes str sl k (e - n + 1) := ⟨y2.1, by omega, by rw [hn]; exact y2.2.2⟩
            have hx : x = -1 := by
              rcases g6 with ⟨q1, -⟩ | ⟨q1, q2, q3, q4⟩
              · exact q1
              · have := hd x k q2.1 ⟨g1, h, hl⟩ (by omega) (q4.same hm (by omega))
                have := q2.2
                omega
            subst hx
            have g3 : rp = rep := g3
            have g4 : fE = rE := g4
            have g5 : fK = rK := g5
            subst g3; subst g4; subst g5
            have hk1 : ¬ k = -1 := by omega
            refine ⟨(rp + 1, (if rp < 300 then upA fE rp e else fE), (if rp < 300 then upA fK rp k else fK), k + 1), ⟨by show 0 ≤ k + 1; omega, by show k + 1 ≤ gv; omega, k, by show rp + 1 = RSr rp k; unfold RSr; rw [if_neg hk1], by show _ = RSa rp k fE e; unfold RSa; rw [if_neg hk1], by show _ = RSa rp k fK k; unfold RSa; rw [if_neg hk1], Or.inr ⟨g1, ⟨⟨g1, h, hl⟩, by show k < k + 1; omega⟩, hn, hm⟩⟩, by show (gv - (k + 1)).toNat < (gv - k).toNat; omega, ?_⟩
            by_cases c : rp < 300
            · simp (disch := omega) only [cLt_t, cLt_f, cEq_t, cEq_f, cLtL_t, cLtL_f, cEqL_t, cEqL_f, cR_t, cRL_t, cZ_t, cN_t, cCp_t, rdA_t, ob_e, bd1_e, bd2_e, bd3_e, bd4_e, bd5_e, bd6_e, bd7_e, bd8_e, bd9_e, bd10_e, bd12_e, z1, if_pos c]
            · simp (disch := omega) only [cLt_t, cLt_f, cEq_t, cEq_f, cLtL_t, cLtL_f, cEqL_t, cEqL_f, cR_t, cRL_t, cZ_t, cN_t, cCp_t, rdA_t, ob_e, bd1_e, bd2_e, bd3_e, bd4_e, bd5_e, bd6_e, bd7_e, bd8_e, bd9_e, bd10_e, bd12_e, z1, if_neg c]
          · refine ⟨(rp, fE, fK, k + 1), ⟨by show 0 ≤ k + 1; omega, by show k + 1 ≤ gv; omega, x, g3, g4, g5, skip (fun q => y2 ⟨q.2.2.1, by have := q.2.2.2.1; omega, by have := q.2.2.2.2; rw [hn] at this; exact this⟩)⟩, by show (gv - (k + 1)).toNat < (gv - k).toNat; omega, ?_⟩
            simp (disch := omega) only [cLt_t, cLt_f, cEq_t, cEq_f, cLtL_t, cLtL_f, cEqL_t, cEqL_f, cR_t, cRL_t, cZ_t, cN_t, cCp_t, rdA_t, ob_e, bd1_e, bd2_e, bd3_e, bd4_e, bd5_e, bd6_e, bd7_e, bd8_e, bd9_e, bd10_e, bd12_e, z1]
        · refine ⟨(rp, fE, fK, k + 1), ⟨by show 0 ≤ k + 1; omega, by show k + 1 ≤ gv; omega, x, g3, g4, g5, skip (fun q => hn q.2.1)⟩, by show (gv - (k + 1)).toNat < (gv - k).toNat; omega, ?_⟩
          simp (disch := omega) only [cLt_t, cLt_f, cEq_t, cEq_f, cLtL_t, cLtL_f, cEqL_t, cEqL_f, cR_t, cRL_t, cZ_t, cN_t, cCp_t, rdA_t, ob_e, bd1_e, bd2_e, bd3_e, bd4_e, bd5_e, bd6_e, bd7_e, bd8_e, bd9_e, bd10_e, bd12_e]
      · refine ⟨(rp, fE, fK, k + 1), ⟨by show 0 ≤ k + 1; omega, by show k + 1 ≤ gv; omega, x, g3, g4, g5, skip (fun q => hl q.1.2.2)⟩, by show (gv - (k + 1)).toNat < (gv - k).toNat; omega, ?_⟩
        simp (disch := omega) only [cLt_t, cLt_f, cEq_t, cEq_f, cLtL_t, cLtL_f, cEqL_t, cEqL_f, cR_t, cRL_t, cZ_t, cN_t, cCp_t, rdA_t, ob_e, bd1_e, bd2_e, bd3_e, bd4_e, bd5_e, bd6_e, bd7_e, bd8_e, bd9_e, bd10_e, bd12_e]
    · left
      refine ⟨(rp, fE, fK), by simp (disch := omega) only [cLt_t, cLt_f, cEq_t, cEq_f, cLtL_t, cLtL_f, cEqL_t, cEqL_f, cR_t, cRL_t, cZ_t, cN_t, cCp_t, rdA_t, ob_e, bd1_e, bd2_e, bd3_e, bd4_e, bd5_e, bd6_e, bd7_e, bd8_e, bd9_e, bd10_e, bd12_e], x, by rw [g3, g4, g5], g6.congr (fun j hj => ⟨fun q => ⟨q.1.1, q.2⟩, fun q => ⟨⟨q.1, by have := q.1.2.1; omega⟩, q.2⟩⟩)⟩
def mn3 (rep : Int) : Int := if rep < 300 then rep else 300
theorem X4_add_e {rep x v : Int} {fP fN : Int → Int} (h1 : 0 ≤ rep) (hx : ¬ x = -1) : s_X4_add 300 (mn3 rep) fP fN v x = some (mn3 (RSr rep x), RSa rep x fP v, RSa rep x fN x) := by
  unfold s_X4_add RSr RSa mn3
  rw [if_neg hx, if_neg hx, if_neg hx]
  by_cases c : rep < 300
  · rw [if_pos c, if_pos c, if_pos c]
    simp (disch := omega) only [cLt_t, cLt_f, cEq_t, cEq_f, cLtL_t, cLtL_f, cEqL_t, cEqL_f, cR_t, cRL_t, cZ_t, cN_t, cCp_t, rdA_t, ob_e, bd1_e, bd2_e, bd3_e, bd4_e, bd5_e, bd6_e, bd7_e, bd8_e, bd9_e, bd10_e, bd12_e]
    by_cases d : rep + 1 < 300
    · rw [if_pos d]
    · rw [if_neg d, show rep + 1 = 300 by omega]
  · rw [if_neg c, if_neg c, if_neg c, if_neg (by omega)]
    simp (disch := omega) only [cLt_t, cLt_f, cEq_t, cEq_f, cLtL_t, cLtL_f, cEqL_t, cEqL_f, cR_t, cRL_t, cZ_t, cN_t, cCp_t, rdA_t, ob_e, bd1_e, bd2_e, bd3_e, bd4_e, bd5_e, bd6_e, bd7_e, bd8_e, bd9_e, bd10_e, bd12_e]
theorem X7_reportStep {gv on sl rep : Int} {len bytes live str words rE rK : Int → Int} : True := trivial
theorem reports_both {gv on sl : Int} {len bytes wt live str words : Int → Int} (hK : KW gv len bytes wt live) (hd : DSJ on gv len bytes live) (o1 : 0 ≤ on) (o2 : on ≤ 1) (hs1 : 1 ≤ sl) (hs2 : sl ≤ 600) (hS : RB str 0 600) (hT : TBI on gv len bytes live str sl words) : ∀ (m : Nat) (n rep : Int) (rE rK : Int → Int) (f1 f2 : Nat), n = (m : Int) → m ≤ 16 → 0 ≤ rep → rep + m ≤ 1000000000 → m < f1 → m < f2 → ∃ rep2 rE2 rK2, s_X7_reportMatchesAtEnd_3 f1 rep sl words (mn3 rep) rE rK n = some (rep2, mn3 rep2, rE2, rK2) ∧ s_X8_reports_3 f2 gv on sl rep len bytes live str rE rK (sl - 1) n = some (rep2, rE2, rK2) ∧ rep ≤ rep2 ∧ rep2 ≤ rep + m := by
  intro m
  induction m with
  | zero =>
    intro n rep rE rK f1 f2 hn _ h1 h2 hf1 hf2
    obtain ⟨a, rfl⟩ : ∃ a, f1 = a + 1 := ⟨f1 - 1, by omega⟩
    obtain ⟨b, rfl⟩ : ∃ b, f2 = b + 1 := ⟨f2 - 1, by omega⟩
    refine ⟨rep, rE, rK, ?_, ?_, by omega, by omega⟩
    · rw [s_X7_reportMatchesAtEnd_3_s]; simp (disch := omega) only [cLt_t, cLt_f, cEq_t, cEq_f, cLtL_t, cLtL_f, cEqL_t, cEqL_f, cR_t, cRL_t, cZ_t, cN_t, cCp_t, rdA_t, ob_e, bd1_e, bd2_e, bd3_e, bd4_e, bd5_e, bd6_e, bd7_e, bd8_e, bd9_e, bd10_e, bd12_e]
    · rw [s_X8_reports_3_s]; simp (disch := omega) only [cLt_t, cLt_f, cEq_t, cEq_f, cLtL_t, cLtL_f, cEqL_t, cEqL_f, cR_t, cRL_t, cZ_t, cN_t, cCp_t, rdA_t, ob_e, bd1_e, bd2_e, bd3_e, bd4_e, bd5_e, bd6_e, bd7_e, bd8_e, bd9_e, bd10_e, bd12_e]
  | succ m ih =>
    intro n rep rE rK f1 f2 hn hm h1 h2 hf1 hf2
    obtain ⟨a, rfl⟩ : ∃ a, f1 = a + 1 := ⟨f1 - 1, by omega⟩
    obtain ⟨b, rfl⟩ : ∃ b, f2 = b + 1 := ⟨f2 - 1, by omega⟩
    obtain ⟨x, e1, e2⟩ := X8_reports_9_e (sl := sl) (n := n) (e := sl - 1) (rep := rep) (rE := rE) (rK := rK) hK hd o1 o2 (by omega) hs2 hS (by omega) (by omega) (by omega) (by omega) h1 (by omega)
    rw [show sl - 1 - n + 1 = sl - n by omega] at e2
    have hat : s_X5_at words (sl - n) n = some x := by
      rw [X5_at_e (by omega) (by omega) (by omega) (by omega)]
      by_cases c : 0 ≤ sl - n
      · rw [if_pos (by omega), (hT (sl - n) n c (by omega) (by omega) (by omega)).uniq hd (fun j h => h) e2]
      · rw [if_neg (by omega)]
        rcases e2 with ⟨q, -⟩ | ⟨-, -, -, q⟩
        · rw [q]
        · have := q.1; omega
    have hxr : -1 ≤ x ∧ x < 120 := by
      have := hK.2.1
      rcases e2 with ⟨q, -⟩ | ⟨q, q2, -, -⟩
      · omega
      · have := q2.2.1; omega
    have hrr : rep ≤ RSr rep x ∧ RSr rep x ≤ rep + 1 := by unfold RSr; split <;> omega
    obtain ⟨rep2, rE2, rK2, i1, i2, i3, i4⟩ := ih (n + -1) (RSr rep x) (RSa rep x rE (sl - 1)) (RSa rep x rK x) a b (by omega) (by omega) (by omega) (by omega) (by omega) (by omega)
    refine ⟨rep2, rE2, rK2, ?_, ?_, by omega, by omega⟩
    · rw [s_X7_reportMatchesAtEnd_3_s]
      by_cases c : x = -1
      · have i1 : s_X7_reportMatchesAtEnd_3 a (RSr rep x) sl words (mn3 (RSr rep x)) (RSa rep x rE (sl - 1)) (RSa rep x rK x) (n + -1) = some (rep2, mn3 rep2, rE2, rK2) := i1
        unfold RSr RSa at i1
        rw [if_pos c, if_pos c, if_pos c] at i1
        simp (disch := omega) only [cLt_t, cLt_f, cEq_t, cEq_f, cLtL_t, cLtL_f, cEqL_t, cEqL_f, cR_t, cRL_t, cZ_t, cN_t, cCp_t, rdA_t, ob_e, bd1_e, bd2_e, bd3_e, bd4_e, bd5_e, bd6_e, bd7_e, bd8_e, bd9_e, bd10_e, bd12_e, hat, i1]
      · have ea := X4_add_e (rep := rep) (x := x) (v := sl - 1) (fP := rE) (fN := rK) h1 c
        have er : RSr rep x = rep + 1 := by unfold RSr; rw [if_neg c]
        rw [er] at i1 ea
        simp (disch := omega) only [cLt_t, cLt_f, cEq_t, cEq_f, cLtL_t, cLtL_f, cEqL_t, cEqL_f, cR_t, cRL_t, cZ_t, cN_t, cCp_t, rdA_t, ob_e, bd1_e, bd2_e, bd3_e, bd4_e, bd5_e, bd6_e, bd7_e, bd8_e, bd9_e, bd10_e, bd12_e, hat, ea, i1]
    · rw [s_X8_reports_3_s]
      simp (disch := omega) only [cLt_t, cLt_f, cEq_t, cEq_f, cLtL_t, cLtL_f, cEqL_t, cEqL_f, cR_t, cRL_t, cZ_t, cN_t, cCp_t, rdA_t, ob_e, bd1_e, bd2_e, bd3_e, bd4_e, bd5_e, bd6_e, bd7_e, bd8_e, bd9_e, bd10_e, bd12_e, e1, i2]
theorem scan_both {gv on bl n : Int} {len bytes wt live buf : Int → Int} (hK : KW gv len bytes wt live) (hd : DSJ on gv len bytes live) (o1 : 0 ≤ on) (o2 : on ≤ 1) (hb1 : 0 ≤ bl) (hb2 : bl ≤ 200) (hB : ∀ j, 0 ≤ j → j < 200 → 0 ≤ buf j ∧ buf j < 256) (hn1 : 0 ≤ n) (hn2 : n ≤ bl) (r0 r1 : Int) : ∀ (m : Nat) (i sl rep : Int) (str words rE rK : Int → Int) (f1 f2 : Nat), i + m = n → 0 ≤ i → 0 ≤ sl → sl + m ≤ 600 → 0 ≤ rep → rep + 16 * m ≤ 1000000000 → (∀ j, 0 ≤ j → j < 600 → 0 ≤ str j ∧ str j < 256) → TBI on gv len bytes live str sl words → m < f1 → m < f2 → ∃ rep2 str2 words2 rE2 rK2, s_X7_scan_40 f1 rep on bl buf gv bytes len live sl str words (mn3 rep) rE rK n 1 r0 i = some (rep2, sl + m, str2, words2, mn3 rep2, rE2, rK2) ∧ s_X8_scan_49 f2 gv on sl rep buf len bytes live str rE rK n r1 i = some (sl + m, rep2, str2, rE2, rK2) ∧ rep ≤ rep2 ∧ rep2 ≤ rep + 16 * m ∧ (∀ j, 0 ≤ j → j < 600 → 0 ≤ str2 j ∧ str2 j < 256) ∧ TBI on gv len bytes live str2 (sl + m) words2 := by
  intro m
  induction m with
  | zero =>
    intro i sl rep str words rE rK f1 f2 hi h1 h2 h3 h4 h5 h6 h7 hf1 hf2
    obtain ⟨a, rfl⟩ : ∃ a, f1 = a + 1 := ⟨f1 - 1, by omega⟩
    obtain ⟨b, rfl⟩ : ∃ b, f2 = b + 1 := ⟨f2 - 1, by omega⟩
    have e0 : sl + ((0 : Nat) : Int) = sl := by omega
    rw [e0]
    refine ⟨rep, str, words, rE, rK, ?_, ?_, by omega, by omega, h6, h7⟩
    · rw [s_X7_scan_40_s]; simp (disch := omega) only [cLt_t, cLt_f, cEq_t, cEq_f, cLtL_t, cLtL_f, cEqL_t, cEqL_f, cR_t, cRL_t, cZ_t, cN_t, cCp_t, rdA_t, ob_e, bd1_e, bd2_e, bd3_e, bd4_e, bd5_e, bd6_e, bd7_e, bd8_e, bd9_e, bd10_e, bd12_e]
    · rw [s_X8_scan_49_s]; simp (disch := omega) only [cLt_t, cLt_f, cEq_t, cEq_f, cLtL_t, cLtL_f, cEqL_t, cEqL_f, cR_t, cRL_t, cZ_t, cN_t, cCp_t, rdA_t, ob_e, bd1_e, bd2_e, bd3_e, bd4_e, bd5_e, bd6_e, bd7_e, bd8_e, bd9_e, bd10_e, bd12_e]
  | succ m ih =>
    intro i sl rep str words rE rK f1 f2 hi h1 h2 h3 h4 h5 h6 h7 hf1 hf2
    obtain ⟨a, rfl⟩ : ∃ a, f1 = a + 1 := ⟨f1 - 1, by omega⟩
    obtain ⟨b, rfl⟩ : ∃ b, f2 = b + 1 := ⟨f2 - 1, by omega⟩
    have hv := hB i h1 (by omega)
    have hRB : RB str 0 600 := fun j x y => by rw [Int.zero_add]; have := h6 j x y; omega
    have h6' : ∀ j, 0 ≤ j → j < 600 → 0 ≤ upA str sl (buf i) j ∧ upA str sl (buf i) j < 256 := fun j x y => by
      by_cases q : j = sl
      · rw [q, upA_s]; exact hv
      · rw [upA_n q]; exact h6 j x y
    have hRB' : RB (upA str sl (buf i)) 0 600 := fun j x y => by rw [Int.zero_add]; have := h6' j x y; omega
    obtain ⟨w2, e1, e2⟩ := X7_noteMatchesAtEnd_e (v := buf i) hK hd o1 o2 h2 (by omega) hRB hv.1 hv.2 h7
    obtain ⟨rep2, rE2, rK2, q1, q2, q3, q4⟩ := reports_both (sl := sl + 1) hK hd o1 o2 (by omega) (by omega) hRB' e2 16 16 rep rE rK FU FU rfl (by omega) h4 (by omega) (FU_lt (by omega)) (FU_lt (by omega))
    obtain ⟨rep3, str3, w3, rE3, rK3, z1, z2, z3, z4, z5, z6⟩ := ih (i + 1) (sl + 1) rep2 (upA str sl (buf i)) w2 rE2 rK2 a b (by omega) (by omega) (by omega) (by omega) (by omega) (by omega) h6' e2 (by omega) (by omega)
    have el : sl + 1 + (m : Int) = sl + ((m + 1 : Nat) : Int) := by omega
    rw [el] at z1 z2 z6
    have q1' : s_X7_reportMatchesAtEnd rep (sl + 1) w2 (mn3 rep) rE rK = some (rep2, mn3 rep2, rE2, rK2) := by
      unfold s_X7_reportMatchesAtEnd; simp (disch := omega) only [cLt_t, cLt_f, cEq_t, cEq_f, cLtL_t, cLtL_f, cEqL_t, cEqL_f, cR_t, cRL_t, cZ_t, cN_t, cCp_t, rdA_t, ob_e, bd1_e, bd2_e, bd3_e, bd4_e, bd5_e, bd6_e, bd7_e, bd8_e, bd9_e, bd10_e, bd12_e, q1]
    have q2' : s_X8_reports gv on (sl + 1) rep len bytes live (upA str sl (buf i)) rE rK (sl + 1 - 1) = some (rep2, rE2, rK2) := by
      unfold s_X8_reports; simp (disch := omega) only [cLt_t, cLt_f, cEq_t, cEq_f, cLtL_t, cLtL_f, cEqL_t, cEqL_f, cR_t, cRL_t, cZ_t, cN_t, cCp_t, rdA_t, ob_e, bd1_e, bd2_e, bd3_e, bd4_e, bd5_e, bd6_e, bd7_e, bd8_e, bd9_e, bd10_e, bd12_e, q2]
    refine ⟨rep3, str3, w3, rE3, rK3, ?_, ?_, by omega, by omega, z5, z6⟩
    · rw [s_X7_scan_40_s]
      simp (disch := omega) only [cLt_t, cLt_f, cEq_t, cEq_f, cLtL_t, cLtL_f, cEqL_t, cEqL_f, cR_t, cRL_t, cZ_t, cN_t, cCp_t, rdA_t, ob_e, bd1_e, bd2_e, bd3_e, bd4_e, bd5_e, bd6_e, bd7_e, bd8_e, bd9_e, bd10_e, bd12_e, X1_at_e, if_pos (show 0 ≤ i ∧ i < bl by omega), X1_append_e, e1, q1', z1]
    · rw [s_X8_scan_49_s]
      simp (disch := omega) only [cLt_t, cLt_f, cEq_t, cEq_f, cLtL_t, cLtL_f, cEqL_t, cEqL_f, cR_t, cRL_t, cZ_t, cN_t, cCp_t, rdA_t, ob_e, bd1_e, bd2_e, bd3_e, bd4_e, bd5_e, bd6_e, bd7_e, bd8_e, bd9_e, bd10_e, bd12_e, q2', z2]
theorem op_scan {gv on bl n sl rep th : Int} {len bytes wt live buf str words rE rK : Int → Int} (hK : KW gv len bytes wt live) (hd : DSJ on gv len bytes live) (o1 : 0 ≤ on) (o2 : on ≤ 1) (hb1 : 0 ≤ bl) (hb2 : bl ≤ 200) (hB : ∀ j, 0 ≤ j → j < 200 → 0 ≤ buf j ∧ buf j < 256) (hs1 : 0 ≤ sl) (hs2 : sl ≤ 600) (hS : ∀ j, 0 ≤ j → j < 600 → 0 ≤ str j ∧ str j < 256) (hT : TBI on gv len bytes live str sl words) (hr1 : 0 ≤ rep) (hr2 : rep ≤ 900000000) (h3 : -2147483648 ≤ n) (h4 : n < 2147483648) : ∃ r rep2 bl2 sl2 str2 words2 rE2 rK2, s_X7_scan rep on bl buf gv bytes len live sl str words (mn3 rep) rE rK n = some (r, rep2, bl2, sl2, str2, words2, mn3 rep2, rE2, rK2) ∧ s_X8_scan th bl gv on sl rep buf len bytes live str rE rK n = some (r, 0, bl2, sl2, rep2, str2, rE2, rK2) ∧ 0 ≤ bl2 ∧ bl2 ≤ 200 ∧ 0 ≤ sl2 ∧ sl2 ≤ 600 ∧ (∀ j, 0 ≤ j → j < 600 → 0 ≤ str2 j ∧ str2 j < 256) ∧ TBI on gv len bytes live str2 sl2 words2 ∧ 0 ≤ rep2 ∧ rep2 ≤ rep + 3200 := by
  unfold s_X7_scan s_X8_scan
  by_cases h : 0 ≤ n ∧ n ≤ bl
  · by_cases hf : 600 < sl + n
    · have e1 : s_X7_scan_40 FU rep on bl buf gv bytes len live sl str words (mn3 rep) rE rK n 0 rep 0 = some (rep, sl, str, words, mn3 rep, rE, rK) := by
        obtain ⟨k, hk⟩ := FU_split
        rw [hk, s_X7_scan_40_s]
        by_cases c : 0 < n
        · simp (disch := omega) only [cLt_t, cLt_f, cEq_t, cEq_f, cLtL_t, cLtL_f, cEqL_t, cEqL_f, cR_t, cRL_t, cZ_t, cN_t, cCp_t, rdA_t, ob_e, bd1_e, bd2_e, bd3_e, bd4_e, bd5_e, bd6_e, bd7_e, bd8_e, bd9_e, bd10_e, bd12_e]
        · simp (disch := omega) only [cLt_t, cLt_f, cEq_t, cEq_f, cLtL_t, cLtL_f, cEqL_t, cEqL_f, cR_t, cRL_t, cZ_t, cN_t, cCp_t, rdA_t, ob_e, bd1_e, bd2_e, bd3_e, bd4_e, bd5_e, bd6_e, bd7_e, bd8_e, bd9_e, bd10_e, bd12_e]
      have e2 : s_X1_clear 200 bl = some 0 := rfl
      refine ⟨-6, rep, 0, sl, str, words, rE, rK, ?_, ?_, by omega, by omega, hs1, hs2, hS, hT, hr1, by omega⟩
      · simp (disch := omega) only [cLt_t, cLt_f, cEq_t, cEq_f, cLtL_t, cLtL_f, cEqL_t, cEqL_f, cR_t, cRL_t, cZ_t, cN_t, cCp_t, rdA_t, ob_e, bd1_e, bd2_e, bd3_e, bd4_e, bd5_e, bd6_e, bd7_e, bd8_e, bd9_e, bd10_e, bd12_e, X7_isBufferPart_e, if_pos h, e1, e2]
      · simp (disch := omega) only [cLt_t, cLt_f, cEq_t, cEq_f, cLtL_t, cLtL_f, cEqL_t, cEqL_f, cR_t, cRL_t, cZ_t, cN_t, cCp_t, rdA_t, ob_e, bd1_e, bd2_e, bd3_e, bd4_e, bd5_e, bd6_e, bd7_e, bd8_e, bd9_e, bd10_e, bd12_e, X8_isIn_e, if_pos h]
    · obtain ⟨m, hm⟩ := Int.eq_ofNat_of_zero_le h.1
      obtain ⟨rep2, str2, w2, rE2, rK2, z1, z2, z3, z4, z5, z6⟩ := scan_both (n := n) hK hd o1 o2 hb1 hb2 hB h.1 h.2 rep rep m 0 sl rep str words rE rK FU FU (by omega) (by omega) hs1 (by omega) hr1 (by omega) hS hT (FU_lt (by omega)) (FU_lt (by omega))
      have e2 : s_X1_clear 200 bl = some 0 := rfl
      refine ⟨rep2 - rep, rep2, 0, sl + m, str2, w2, rE2, rK2, ?_, ?_, by omega, by omega, by omega, by omega, z5, z6, by omega, by omega⟩
      · simp (disch := omega) only [cLt_t, cLt_f, cEq_t, cEq_f, cLtL_t, cLtL_f, cEqL_t, cEqL_f, cR_t, cRL_t, cZ_t, cN_t, cCp_t, rdA_t, ob_e, bd1_e, bd2_e, bd3_e, bd4_e, bd5_e, bd6_e, bd7_e, bd8_e, bd9_e, bd10_e, bd12_e, X7_isBufferPart_e, if_pos h, z1, e2]
      · simp (disch := omega) only [cLt_t, cLt_f, cEq_t, cEq_f, cLtL_t, cLtL_f, cEqL_t, cEqL_f, cR_t, cRL_t, cZ_t, cN_t, cCp_t, rdA_t, ob_e, bd1_e, bd2_e, bd3_e, bd4_e, bd5_e, bd6_e, bd7_e, bd8_e, bd9_e, bd10_e, bd12_e, X8_isIn_e, if_pos h, z2]
  · refine ⟨-3, rep, bl, sl, str, words, rE, rK, ?_, ?_, hb1, hb2, hs1, hs2, hS, hT, hr1, by omega⟩
    · simp (disch := omega) only [cLt_t, cLt_f, cEq_t, cEq_f, cLtL_t, cLtL_f, cEqL_t, cEqL_f, cR_t, cRL_t, cZ_t, cN_t, cCp_t, rdA_t, ob_e, bd1_e, bd2_e, bd3_e, bd4_e, bd5_e, bd6_e, bd7_e, bd8_e, bd9_e, bd10_e, bd12_e, X7_isBufferPart_e, if_neg h]
    · simp (disch := omega) only [cLt_t, cLt_f, cEq_t, cEq_f, cLtL_t, cLtL_f, cEqL_t, cEqL_f, cR_t, cRL_t, cZ_t, cN_t, cCp_t, rdA_t, ob_e, bd1_e, bd2_e, bd3_e, bd4_e, bd5_e, bd6_e, bd7_e, bd8_e, bd9_e, bd10_e, bd12_e, X8_isIn_e, if_neg h]
