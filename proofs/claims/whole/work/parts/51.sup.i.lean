/-! ===== the superstring: its first elements, on both sides ===== -/
theorem cntL_mono {live : Int → Int} : ∀ (n a : Nat), cntL live a ≤ cntL live (a + n) := by
  intro n
  induction n with
  | zero => intro a; exact Int.le_refl _
  | succ n ih =>
    intro a
    have := ih a
    rw [show a + (n + 1) = a + n + 1 by omega, cntL_succ]
    split <;> omega
theorem cntL_le {live : Int → Int} {a b : Nat} (h : a ≤ b) : cntL live a ≤ cntL live b := by
  have := cntL_mono (live := live) (b - a) a
  rw [show a + (b - a) = b by omega] at this
  exact this
theorem laysElements89_e {k : Int} {len bytes hd tl : Int → Int} (hk : 0 ≤ k) (hk2 : k < 120) (hl : 1 ≤ len k) (hl2 : len k ≤ 16) : ∃ hd2 tl2, s_X8_laysElements_89 FU len bytes hd tl k (eg (len k)) 0 = some (hd2, tl2) ∧ (∀ e, 0 ≤ e → e ≠ k → ∀ j, 0 ≤ j → j < 15 → hd2 (15 * e + j) = hd (15 * e + j) ∧ tl2 (15 * e + j) = tl (15 * e + j)) ∧ ∀ j, 0 ≤ j → j < eg (len k) → hd2 (15 * k + j) = bytes (16 * k + j) ∧ tl2 (15 * k + j) = bytes (16 * k + (len k - eg (len k)) + j) := by
  have q := eg_rg (show 0 ≤ len k by omega)
  obtain ⟨w, b1, b2⟩ := loopJ (fun fu (w : (Int → Int) × (Int → Int)) l => s_X8_laysElements_89 fu len bytes w.1 w.2 k (eg (len k)) l) (fun w => w) 0 (eg (len k)) q.1 (hd, tl) (fun l w => (∀ e, 0 ≤ e → e ≠ k → ∀ j, 0 ≤ j → j < 15 → w.1 (15 * e + j) = hd (15 * e + j) ∧ w.2 (15 * e + j) = tl (15 * e + j)) ∧ ∀ j, 0 ≤ j → j < l → w.1 (15 * k + j) = bytes (16 * k + j) ∧ w.2 (15 * k + j) = bytes (16 * k + (len k - eg (len k)) + j)) ⟨fun e a b j u w => ⟨rfl, rfl⟩, fun j u w => by omega⟩ (by
    intro fu ⟨h2, t2⟩ l g1 g2 ⟨g3, g4⟩
    have c1 := X8_byteOf_e (f := bytes) (k := k) (i := l) (by omega) (by omega)
    have c2 := X8_byteOf_e (f := bytes) (k := k) (i := len k - eg (len k) + l) (by omega) (by omega)
    rw [show 16 * k + (len k - eg (len k) + l) = 16 * k + (len k - eg (len k)) + l by omega] at c2
    refine ⟨(upA h2 (15 * k + l) (bytes (16 * k + l)), upA t2 (15 * k + l) (bytes (16 * k + (len k - eg (len k)) + l))), ⟨fun e a b j u w => ?_, fun j u w => ?_⟩, ?_⟩
    · show upA h2 _ _ _ = _ ∧ upA t2 _ _ _ = _
      rw [upA_n (by omega), upA_n (by omega)]
      exact g3 e a b j u w
    · show upA h2 _ _ _ = _ ∧ upA t2 _ _ _ = _
      by_cases d : j = l
      · rw [d, upA_s, upA_s]; exact ⟨rfl, rfl⟩
      · rw [upA_n (by omega), upA_n (by omega)]
        exact g4 j u (by omega)
    · simp only [s_X8_laysElements_89_s]
      simp (disch := omega) only [cLt_t, cLt_f, cEq_t, cEq_f, cLtL_t, cLtL_f, cEqL_t, cEqL_f, cR_t, cRL_t, cZ_t, cN_t, cCp_t, rdA_t, ob_e, bd1_e, bd2_e, bd3_e, bd4_e, bd5_e, bd6_e, bd7_e, bd8_e, bd9_e, bd10_e, bd12_e, c1, c2]) (by
    intro fu w _
    simp only [s_X8_laysElements_89_s]
    simp (disch := omega) only [cLt_t, cLt_f, cEq_t, cEq_f, cLtL_t, cLtL_f, cEqL_t, cEqL_f, cR_t, cRL_t, cZ_t, cN_t, cCp_t, rdA_t, ob_e, bd1_e, bd2_e, bd3_e, bd4_e, bd5_e, bd6_e, bd7_e, bd8_e, bd9_e, bd10_e, bd12_e]) FU (FU_lt (by omega))
  obtain ⟨h2, t2⟩ := w
  exact ⟨h2, t2, b2, b1.1, b1.2⟩
/-- what holds of the two lists behind the first k keywords -/
def SE (on gv : Int) (len bytes live : Int → Int) (k m al : Int) (st ln area el lg hd tl nx ls : Int → Int) : Prop :=
  0 ≤ m ∧ m ≤ cntL live k.toNat ∧ (∀ i, 0 ≤ i → i < m → 0 ≤ el i ∧ el i < k ∧ ln i = len (el i) ∧ st i = pf ln i) ∧ (∀ i j, 0 ≤ i → i < j → j < m → el i < el j) ∧
  al = pf ln m ∧ al ≤ 16 * m ∧ (∀ j, 0 ≤ j → j < al → 0 ≤ area j ∧ area j < 256) ∧ (∀ i j, 0 ≤ i → i < m → 0 ≤ j → j < len (el i) → area (st i + j) = bytes (16 * el i + j)) ∧
  (∀ i, 0 ≤ i → i < m → lg (el i) = len (el i) ∧ nx (el i) = -1 ∧ ls (el i) = el i ∧ ∀ j, 0 ≤ j → j < eg (len (el i)) → hd (15 * el i + j) = bytes (16 * el i + j) ∧ tl (15 * el i + j) = bytes (16 * el i + (len (el i) - eg (len (el i))) + j)) ∧
  ∀ q, q < k → LV gv live q → ¬ INS on gv len bytes live q → ∃ i, 0 ≤ i ∧ i < m ∧ el i = q
theorem SE.skip {on gv k m al : Int} {len bytes live st ln area el lg hd tl nx ls : Int → Int} (h : SE on gv len bytes live k m al st ln area el lg hd tl nx ls) (hk : 0 ≤ k) (hn : LV gv live k → INS on gv len bytes live k) : SE on gv len bytes live (k + 1) m al st ln area el lg hd tl nx ls := by
  obtain ⟨h1, h2, h3, h4, h5, h6, h7, h8, h9, h10⟩ := h
  refine ⟨h1, ?_, fun i a b => ?_, h4, h5, h6, h7, h8, h9, fun q a b c => ?_⟩
  · have := cntL_le (live := live) (show k.toNat ≤ (k + 1).toNat by omega)
    omega
  · have := h3 i a b
    exact ⟨this.1, by omega, this.2.2⟩
  · by_cases e : q = k
    · rw [e] at b c; exact absurd (hn b) c
    · exact h10 q (by omega) b c
theorem SE.put {on gv k m al : Int} {len bytes wt live st ln area el lg hd tl nx ls hd2 tl2 : Int → Int} (hK : KW gv len bytes wt live) (h : SE on gv len bytes live k m al st ln area el lg hd tl nx ls) (hk : 0 ≤ k) (hk2 : k < gv) (hl : live k = 1) (e1 : ∀ e, 0 ≤ e → e ≠ k → ∀ j, 0 ≤ j → j < 15 → hd2 (15 * e + j) = hd (15 * e + j) ∧ tl2 (15 * e + j) = tl (15 * e + j)) (e2 : ∀ j, 0 ≤ j → j < eg (len k) → hd2 (15 * k + j) = bytes (16 * k + j) ∧ tl2 (15 * k + j) = bytes (16 * k + (len k - eg (len k)) + j)) : SE on gv len bytes live (k + 1) (m + 1) (al + len k) (upA st m al) (upA ln m (len k)) (cpA bytes area (16 * k) al (len k)) (upA el m k) (upA lg k (len k)) hd2 tl2 (upA nx k (-1)) (upA ls k k) := by
  obtain ⟨h1, h2, h3, h4, h5, h6, h7, h8, h9, h10⟩ := h
  have hq := hK.2.2 k hk hk2
  have pe : ∀ s, s ≤ m → pf (upA ln m (len k)) s = pf ln s := fun s a => pf_cg (fun i b c => upA_n (by omega))
  have hnn : ∀ s, 0 ≤ s → s < m → 0 ≤ ln s := fun s a b => by
    have := h3 s a b
    have := hK.2.2 (el s) this.1 (by omega)
    omega
  have a0 := pf_le hnn (Int.le_refl 0) h1 (Int.le_refl _)
  rw [pf_0] at a0
  have seg : ∀ i, 0 ≤ i → i < m → 0 ≤ st i ∧ st i + len (el i) ≤ al := fun i a b => by
    have u := h3 i a b
    have v := pf_le hnn (Int.le_refl 0) a (Int.le_of_lt b)
    have w := pf_le hnn (show 0 ≤ i + 1 by omega) (show i + 1 ≤ m by omega) (Int.le_refl _)
    rw [pf_s a] at w
    rw [pf_0] at v
    omega
  have ne : ∀ i, 0 ≤ i → i < m → el i ≠ k := fun i a b => by have := h3 i a b; omega
  refine ⟨by omega, ?_, fun i a b => ?_, fun i j a b c => ?_, ?_, by omega, fun j a b => ?_, fun i j a b c d => ?_, fun i a b => ?_, fun q a b c => ?_⟩
  · rw [show (k + 1).toNat = k.toNat + 1 by omega, cntL_succ, show ((k.toNat : Nat) : Int) = k by omega, if_neg (by omega)]
    omega
  · by_cases d : i = m
    · rw [d, upA_s, upA_s, upA_s, pe m (Int.le_refl _)]
      exact ⟨hk, by omega, rfl, h5⟩
    · rw [upA_n d, upA_n d, upA_n d, pe i (by omega)]
      have := h3 i a (by omega)
      exact ⟨this.1, by omega, this.2.2⟩
  · by_cases d : j = m
    · rw [d, upA_s, upA_n (by omega)]
      exact (h3 i a (by omega)).2.1
    · rw [upA_n d, upA_n (by omega)]
      exact h4 i j a b (by omega)
  · rw [pf_s h1, pe m (Int.le_refl _), upA_s]; omega
  · by_cases d : j < al
    · rw [cpA_lo d]; exact h7 j a d
    · rw [cpA_in (by omega) b]
      have := hq.2.2.2.2.2 (j - al) (by omega) (by omega)
      omega
  · by_cases e : i = m
    · rw [e, upA_s] at d ⊢
      rw [upA_s, cpA_in (by omega) (by omega)]
      congr 1; omega
    · rw [upA_n e] at d ⊢
      rw [upA_n e]
      have s := seg i a (by omega)
      rw [cpA_lo (by omega)]
      exact h8 i j a (by omega) c d
  · by_cases e : i = m
    · rw [e, upA_s, upA_s, upA_s, upA_s]
      exact ⟨rfl, rfl, rfl, e2⟩
    · have n := ne i a (by omega)
      rw [upA_n e, upA_n n, upA_n n, upA_n n]
      have g := h9 i a (by omega)
      have g3 := h3 i a (by omega)
      have q := eg_rg (show 0 ≤ len (el i) by have := hnn i a (by omega); omega)
      refine ⟨g.1, g.2.1, g.2.2.1, fun j u w => ?_⟩
      have z := e1 (el i) g3.1 n j u (by omega)
      rw [z.1, z.2]
      exact g.2.2.2 j u w
  · by_cases e : q = k
    · exact ⟨m, h1, by omega, by rw [upA_s, e]⟩
    · obtain ⟨i, i1, i2, i3⟩ := h10 q (by omega) b c
      exact ⟨i, i1, by omega, by rw [upA_n (by omega)]; exact i3⟩
theorem collectAll {on gv : Int} {len bytes wt live : Int → Int} (hK : KW gv len bytes wt live) (o1 : 0 ≤ on) (o2 : on ≤ 1) (hc : cntL live gv.toNat ≤ 40) : ∀ (n f1 f2 : Nat) (k m al : Int) (st ln area el lg hd tl nx ls : Int → Int), k + n = gv → 0 ≤ k → SE on gv len bytes live k m al st ln area el lg hd tl nx ls → n < f1 → n < f2 →
    ∃ m2 al2 st2 ln2 area2 el2 lg2 hd2 tl2 nx2 ls2, s_X6_collect_14 f1 m on st ln al area gv bytes len live k = some (m2, st2, ln2, al2, area2) ∧ s_X8_laysElements_7 f2 gv on m len bytes live el lg hd tl nx ls k = some (m2, el2, lg2, hd2, tl2, nx2, ls2) ∧ SE on gv len bytes live gv m2 al2 st2 ln2 area2 el2 lg2 hd2 tl2 nx2 ls2 := by
  have hg := hK.2.1
  have hg0 := hK.1
  intro n
  induction n with
  | zero =>
    intro f1 f2 k m al st ln area el lg hd tl nx ls hk k0 h h1 h2
    obtain ⟨g1, rfl⟩ : ∃ f, f1 = f + 1 := ⟨f1 - 1, by omega⟩
    obtain ⟨g2, rfl⟩ : ∃ f, f2 = f + 1 := ⟨f2 - 1, by omega⟩
    have e : k = gv := by omega
    subst e
    refine ⟨m, al, st, ln, area, el, lg, hd, tl, nx, ls, ?_, ?_, h⟩
    · simp only [s_X6_collect_14_s]
      simp (disch := omega) only [cLt_t, cLt_f, cEq_t, cEq_f, cLtL_t, cLtL_f, cEqL_t, cEqL_f, cR_t, cRL_t, cZ_t, cN_t, cCp_t, rdA_t, ob_e, bd1_e, bd2_e, bd3_e, bd4_e, bd5_e, bd6_e, bd7_e, bd8_e, bd9_e, bd10_e, bd12_e]
    · simp only [s_X8_laysElements_7_s]
      simp (disch := omega) only [cLt_t, cLt_f, cEq_t, cEq_f, cLtL_t, cLtL_f, cEqL_t, cEqL_f, cR_t, cRL_t, cZ_t, cN_t, cCp_t, rdA_t, ob_e, bd1_e, bd2_e, bd3_e, bd4_e, bd5_e, bd6_e, bd7_e, bd8_e, bd9_e, bd10_e, bd12_e]
  | succ n ih =>
    intro f1 f2 k m al st ln area el lg hd tl nx ls hk k0 h h1 h2
    obtain ⟨g1, rfl⟩ : ∃ f, f1 = f + 1 := ⟨f1 - 1, by omega⟩
    obtain ⟨g2, rfl⟩ : ∃ f, f2 = f + 1 := ⟨f2 - 1, by omega⟩
    have kg : k < gv := by omega
    have hq := hK.2.2 k k0 kg
    have hm0 := h.1
    have hm1 := h.2.1
    have cl := cntL_le (live := live) (show k.toNat ≤ gv.toNat by omega)
    have cl2 := cntL_le (live := live) (show k.toNat + 1 ≤ gv.toNat by omega)
    rw [cntL_succ, show ((k.toNat : Nat) : Int) = k by omega] at cl2
    have al2 := X3_isAlive_e (gv := gv) (k := k) (live := live) hg0 hg (by omega) (by omega) (fun _ _ => hq.2.2.2.2.1)
    have ll := X3_lengthOf_e (gv := gv) (k := k) (len := len) k0 kg hg
    rcases hq.2.2.2.2.1 with e | e
    · rw [if_neg (by omega)] at al2
      obtain ⟨m2, al3, st2, ln2, area2, el2, lg2, hd2, tl2, nx2, ls2, b1, b2, b3⟩ := ih g1 g2 (k + 1) m al st ln area el lg hd tl nx ls (by omega) (by omega) (h.skip k0 (fun q => by have := q.2.2; omega)) (by omega) (by omega)
      refine ⟨m2, al3, st2, ln2, area2, el2, lg2, hd2, tl2, nx2, ls2, ?_, ?_, b3⟩
      · simp only [s_X6_collect_14_s]
        by_cases c : m < 40
        · simp (disch := omega) only [cLt_t, cLt_f, cEq_t, cEq_f, cLtL_t, cLtL_f, cEqL_t, cEqL_f, cR_t, cRL_t, cZ_t, cN_t, cCp_t, rdA_t, ob_e, bd1_e, bd2_e, bd3_e, bd4_e, bd5_e, bd6_e, bd7_e, bd8_e, bd9_e, bd10_e, bd12_e, al2, b1]
        · simp (disch := omega) only [cLt_t, cLt_f, cEq_t, cEq_f, cLtL_t, cLtL_f, cEqL_t, cEqL_f, cR_t, cRL_t, cZ_t, cN_t, cCp_t, rdA_t, ob_e, bd1_e, bd2_e, bd3_e, bd4_e, bd5_e, bd6_e, bd7_e, bd8_e, bd9_e, bd10_e, bd12_e, b1]
      · simp only [s_X8_laysElements_7_s]
        simp (disch := omega) only [cLt_t, cLt_f, cEq_t, cEq_f, cLtL_t, cLtL_f, cEqL_t, cEqL_f, cR_t, cRL_t, cZ_t, cN_t, cCp_t, rdA_t, ob_e, bd1_e, bd2_e, bd3_e, bd4_e, bd5_e, bd6_e, bd7_e, bd8_e, bd9_e, bd10_e, bd12_e, e, b2]
    · rw [if_pos (by omega)] at al2
      rw [e, if_neg (by omega)] at cl2
      obtain ⟨r, r1, r2⟩ := isInside_e hK o1 o2 k0 kg
      obtain ⟨s, s1, s2⟩ := occursInAny_e hK o1 o2 k0 kg
      rcases r2 with ⟨u1, u2⟩ | ⟨u1, u2⟩
      · have v1 : s = 1 := by
          rcases s2 with ⟨v, -⟩ | ⟨-, v⟩
          · exact v
          · exact absurd u2 v
        obtain ⟨m2, al3, st2, ln2, area2, el2, lg2, hd2, tl2, nx2, ls2, b1, b2, b3⟩ := ih g1 g2 (k + 1) m al st ln area el lg hd tl nx ls (by omega) (by omega) (h.skip k0 (fun q => u2)) (by omega) (by omega)
        refine ⟨m2, al3, st2, ln2, area2, el2, lg2, hd2, tl2, nx2, ls2, ?_, ?_, b3⟩
        · simp only [s_X6_collect_14_s]
          simp (disch := omega) only [cLt_t, cLt_f, cEq_t, cEq_f, cLtL_t, cLtL_f, cEqL_t, cEqL_f, cR_t, cRL_t, cZ_t, cN_t, cCp_t, rdA_t, ob_e, bd1_e, bd2_e, bd3_e, bd4_e, bd5_e, bd6_e, bd7_e, bd8_e, bd9_e, bd10_e, bd12_e, al2, r1, u1, b1]
        · simp only [s_X8_laysElements_7_s]
          simp (disch := omega) only [cLt_t, cLt_f, cEq_t, cEq_f, cLtL_t, cLtL_f, cEqL_t, cEqL_f, cR_t, cRL_t, cZ_t, cN_t, cCp_t, rdA_t, ob_e, bd1_e, bd2_e, bd3_e, bd4_e, bd5_e, bd6_e, bd7_e, bd8_e, bd9_e, bd10_e, bd12_e, e, s1, v1, b2]
      · have v1 : s = 0 := by
          rcases s2 with ⟨-, v⟩ | ⟨v, -⟩
          · exact absurd v u2
          · exact v
        have halm := h.2.2.2.2.2.1
        have hal0 : 0 ≤ al := by
          rw [h.2.2.2.2.1]
          have := pf_le (ln := ln) (m := m) (fun i a b => by
            have u := h.2.2.1 i a b
            have := hK.2.2 (el i) u.1 (by omega)
            omega) (Int.le_refl 0) hm0 (Int.le_refl _)
          rw [pf_0] at this; exact this
        have ap := X1_appendRun_e (n0 := 640) (m0 := 1920) (l := al) (sp := 16 * k) (n := len k) (f := area) (g := bytes) (by omega) (by omega) (by omega) hal0 (by omega) (by omega) (by omega)
        obtain ⟨hd2, tl2, c1, c2, c3⟩ := laysElements89_e (k := k) (len := len) (bytes := bytes) (hd := hd) (tl := tl) k0 (by omega) hq.1 hq.2.1
        have ed := edgeOf_e (lg := upA lg k (len k)) (e := k) (l := len k) k0 (by omega) upA_s (by omega) (by omega)
        obtain ⟨m2, al3, st2, ln2, area2, el2, lg2, hd3, tl3, nx2, ls2, b1, b2, b3⟩ := ih g1 g2 (k + 1) (m + 1) (al + len k) (upA st m al) (upA ln m (len k)) (cpA bytes area (16 * k) al (len k)) (upA el m k) (upA lg k (len k)) hd2 tl2 (upA nx k (-1)) (upA ls k k) (by omega) (by omega) (SE.put hK h k0 kg e c2 c3) (by omega) (by omega)
        refine ⟨m2, al3, st2, ln2, area2, el2, lg2, hd3, tl3, nx2, ls2, ?_, ?_, b3⟩
        · simp only [s_X6_collect_14_s]
          simp (disch := omega) only [cLt_t, cLt_f, cEq_t, cEq_f, cLtL_t, cLtL_f, cEqL_t, cEqL_f, cR_t, cRL_t, cZ_t, cN_t, cCp_t, rdA_t, ob_e, bd1_e, bd2_e, bd3_e, bd4_e, bd5_e, bd6_e, bd7_e, bd8_e, bd9_e, bd10_e, bd12_e, al2, r1, u1, ll, X3_firstByteOf_e, ap, b1]
        · simp only [s_X8_laysElements_7_s]
          simp (disch := omega) only [cLt_t, cLt_f, cEq_t, cEq_f, cLtL_t, cLtL_f, cEqL_t, cEqL_f, cR_t, cRL_t, cZ_t, cN_t, cCp_t, rdA_t, ob_e, bd1_e, bd2_e, bd3_e, bd4_e, bd5_e, bd6_e, bd7_e, bd8_e, bd9_e, bd10_e, bd12_e, e, s1, v1, ed, c1, b2]
