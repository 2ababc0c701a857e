/-! ===== the superstring: all joinings; laying out ===== -/
theorem joinAll {on gv slots : Int} {len bytes : Int → Int} {C : Int → Prop} (o1 : 0 ≤ on) (o2 : on ≤ 1) (hg : gv ≤ 120) (hC : ∀ k, C k → 0 ≤ len k) : ∀ (n f1 f2 : Nat) (l2 m al spl : Int) (sw : Bool) (sg st ln area ov el lg hd tl nx sk ls cl spare ed : Int → Int), m = (n : Int) + 1 → l2 + n = slots → JV on gv len bytes C m slots al sg st ln area ov el lg hd tl nx sk ls cl → n < f1 → n < f2 →
    ∃ sw2 st2 ln2 ov2 al2 area2 spl2 spare2 el2 lg2 hd2 tl2 nx2 sk2 ls2 ed2 sg2 cl2, s_X6_build_37 f1 slots sw on st ln ov al area spl spare l2 = some (sw2, st2, ln2, ov2, al2, area2, spl2, spare2) ∧ s_X8_laysWhole_22 f2 on m el lg hd tl nx sk ls ed = some (1, el2, lg2, hd2, tl2, nx2, sk2, ls2, ed2) ∧ JV on gv len bytes C 1 slots al2 sg2 st2 ln2 area2 ov2 el2 lg2 hd2 tl2 nx2 sk2 ls2 cl2 := by
  intro n
  induction n with
  | zero =>
    intro f1 f2 l2 m al spl sw sg st ln area ov el lg hd tl nx sk ls cl spare ed hm hl h h1 h2
    have hs := h.1.2.1
    have hs0 := h.1.1
    obtain ⟨g1, rfl⟩ : ∃ f, f1 = f + 1 := ⟨f1 - 1, by omega⟩
    obtain ⟨g2, rfl⟩ : ∃ f, f2 = f + 1 := ⟨f2 - 1, by omega⟩
    have em : m = 1 := by omega
    subst em
    refine ⟨sw, st, ln, ov, al, area, spl, spare, el, lg, hd, tl, nx, sk, ls, ed, sg, cl, ?_, ?_, h⟩
    · simp only [s_X6_build_37_s]
      simp (disch := omega) only [cLt_t, cLt_f, cEq_t, cEq_f, cLtL_t, cLtL_f, cEqL_t, cEqL_f, cR_t, cRL_t, cZ_t, cN_t, cCp_t, rdA_t, ob_e, bd1_e, bd2_e, bd3_e, bd4_e, bd5_e, bd6_e, bd7_e, bd8_e, bd9_e, bd10_e, bd12_e]
    · simp only [s_X8_laysWhole_22_s]
      simp (disch := omega) only [cLt_t, cLt_f, cEq_t, cEq_f, cLtL_t, cLtL_f, cEqL_t, cEqL_f, cR_t, cRL_t, cZ_t, cN_t, cCp_t, rdA_t, ob_e, bd1_e, bd2_e, bd3_e, bd4_e, bd5_e, bd6_e, bd7_e, bd8_e, bd9_e, bd10_e, bd12_e]
  | succ n ih =>
    intro f1 f2 l2 m al spl sw sg st ln area ov el lg hd tl nx sk ls cl spare ed hm hl h h1 h2
    have hs := h.1.2.1
    have hs0 := h.1.1
    have hm4 := h.2.1.2.1
    obtain ⟨g1, rfl⟩ : ∃ f, f1 = f + 1 := ⟨f1 - 1, by omega⟩
    obtain ⟨g2, rfl⟩ : ∃ f, f2 = f + 1 := ⟨f2 - 1, by omega⟩
    obtain ⟨x, y, st2, ln2, al2, area2, ov2, el2, lg2, hd2, tl2, nx2, sk2, ls2, ed2, sg2, cl2, x1, x2, y1, y2, a1, a2, a3, a4, a5⟩ := JV.step (sw := sw) (spl := spl) (spare := spare) (ed := ed) o1 o2 hg hC h (by omega)
    obtain ⟨c1, c2⟩ := cell_e x1 x2 y1 y2
    obtain ⟨sw3, st3, ln3, ov3, al3, area3, spl3, spare3, el3, lg3, hd3, tl3, nx3, sk3, ls3, ed3, sg3, cl3, b1, b2, b3⟩ := ih g1 g2 (l2 + 1) (m - 1) al2 al (!sw) sg2 st2 ln2 area2 ov2 el2 lg2 hd2 tl2 nx2 sk2 ls2 cl2 area ed2 (by omega) (by omega) a5 (by omega) (by omega)
    refine ⟨sw3, st3, ln3, ov3, al3, area3, spl3, spare3, el3, lg3, hd3, tl3, nx3, sk3, ls3, ed3, sg3, cl3, ?_, ?_, b3⟩
    · simp only [s_X6_build_37_s]
      simp (disch := omega) only [cLt_t, cLt_f, cEq_t, cEq_f, cLtL_t, cLtL_f, cEqL_t, cEqL_f, cR_t, cRL_t, cZ_t, cN_t, cCp_t, rdA_t, ob_e, bd1_e, bd2_e, bd3_e, bd4_e, bd5_e, bd6_e, bd7_e, bd8_e, bd9_e, bd10_e, bd12_e, a1, c1, c2, a2, a3, b1]
    · simp only [s_X8_laysWhole_22_s]
      simp (disch := omega) only [cLt_t, cLt_f, cEq_t, cEq_f, cLtL_t, cLtL_f, cEqL_t, cEqL_f, cR_t, cRL_t, cZ_t, cN_t, cCp_t, rdA_t, ob_e, bd1_e, bd2_e, bd3_e, bd4_e, bd5_e, bd6_e, bd7_e, bd8_e, bd9_e, bd10_e, bd12_e, a4, b2]
theorem laysWhole61_e {ws k s : Int} {len bytes whole : Int → Int} (hk : 0 ≤ k) (hk2 : k < 120) (hl : 1 ≤ len k) (hl2 : len k ≤ 16) (hs : 0 ≤ s) (hs2 : s ≤ 100000) (hw : 0 ≤ ws) (hw2 : ws + mz (len k - s) ≤ 640) : ∃ whole2, s_X8_laysWhole_61 FU ws len bytes whole s k s = some (ws + mz (len k - s), whole2) ∧ (∀ q, q < ws → whole2 q = whole q) ∧ ∀ j, 0 ≤ j → j < mz (len k - s) → whole2 (ws + j) = bytes (16 * k + s + j) := by
  have m1 := mz_e (len k - s)
  by_cases c : s ≤ len k
  · obtain ⟨w, b1, b2⟩ := loopJ (fun fu (w : Int × (Int → Int)) l => s_X8_laysWhole_61 fu w.1 len bytes w.2 s k l) (fun w => w) s (len k) c (ws, whole) (fun l w => w.1 = ws + (l - s) ∧ (∀ q, q < ws → w.2 q = whole q) ∧ ∀ j, 0 ≤ j → j < l - s → w.2 (ws + j) = bytes (16 * k + s + j)) ⟨by show ws = ws + (s - s); omega, fun q a => rfl, fun j a b => by omega⟩ (by
      intro fu ⟨w1, w2⟩ l g1 g2 ⟨g3, g4, g5⟩
      have g3 : w1 = ws + (l - s) := g3
      have g4 : ∀ q, q < ws → w2 q = whole q := g4
      have g5 : ∀ j, 0 ≤ j → j < l - s → w2 (ws + j) = bytes (16 * k + s + j) := g5
      have hb := X8_byteOf_e (f := bytes) (k := k) (i := l) (by omega) (by omega)
      refine ⟨(w1 + 1, upA w2 w1 (bytes (16 * k + l))), ⟨by show w1 + 1 = _; omega, fun q a => ?_, fun j a b => ?_⟩, ?_⟩
      · show upA w2 w1 _ q = _
        rw [upA_n (by omega)]; exact g4 q a
      · show upA w2 w1 _ (ws + j) = _
        by_cases d : ws + j = w1
        · rw [d, upA_s]; congr 1; omega
        · rw [upA_n d]; exact g5 j a (by omega)
      · simp only [s_X8_laysWhole_61_s]
        simp (disch := omega) only [cLt_t, cLt_f, cEq_t, cEq_f, cLtL_t, cLtL_f, cEqL_t, cEqL_f, cR_t, cRL_t, cZ_t, cN_t, cCp_t, rdA_t, ob_e, bd1_e, bd2_e, bd3_e, bd4_e, bd5_e, bd6_e, bd7_e, bd8_e, bd9_e, bd10_e, bd12_e, hb]) (by
      intro fu w _
      simp only [s_X8_laysWhole_61_s]
      simp (disch := omega) only [cLt_t, cLt_f, cEq_t, cEq_f, cLtL_t, cLtL_f, cEqL_t, cEqL_f, cR_t, cRL_t, cZ_t, cN_t, cCp_t, rdA_t, ob_e, bd1_e, bd2_e, bd3_e, bd4_e, bd5_e, bd6_e, bd7_e, bd8_e, bd9_e, bd10_e, bd12_e]) FU (FU_lt (by omega))
    obtain ⟨w1, w2⟩ := w
    have b2 : s_X8_laysWhole_61 FU ws len bytes whole s k s = some (w1, w2) := b2
    obtain ⟨h1, h2, h3⟩ := b1
    have h1 : w1 = ws + (len k - s) := h1
    refine ⟨w2, by rw [b2, show ws + mz (len k - s) = w1 by omega], h2, fun j a b => h3 j a (by omega)⟩
  · refine ⟨whole, ?_, fun q a => rfl, fun j a b => by omega⟩
    obtain ⟨f, hf⟩ : ∃ f, FU = f + 1 := ⟨FU - 1, by have := FU_lt (n := 0) (by omega); omega⟩
    rw [hf, show ws + mz (len k - s) = ws by omega]
    simp only [s_X8_laysWhole_61_s]
    simp (disch := omega) only [cLt_t, cLt_f, cEq_t, cEq_f, cLtL_t, cLtL_f, cEqL_t, cEqL_f, cR_t, cRL_t, cZ_t, cN_t, cCp_t, rdA_t, ob_e, bd1_e, bd2_e, bd3_e, bd4_e, bd5_e, bd6_e, bd7_e, bd8_e, bd9_e, bd10_e, bd12_e]
theorem laysWhole54_e {gv : Int} {len bytes wt live nx sk : Int → Int} (hK : KW gv len bytes wt live) : ∀ (r : List Int) (k s ws : Int) (whole : Int → Int) (fu : Nat), LK nx (k :: r) → (∀ x ∈ k :: r, 0 ≤ x ∧ x < gv) → (∀ x ∈ r, 0 ≤ sk x ∧ sk x ≤ 15) → 0 ≤ s → s + 15 * ((r.length : Nat) : Int) ≤ 100000 → 0 ≤ ws → ws + lenc len sk (k :: r) s ≤ 640 → r.length + 1 < fu →
    ∃ whole2, s_X8_laysWhole_54 fu ws len bytes nx sk whole s k = some (ws + lenc len sk (k :: r) s, whole2) ∧ (∀ q, q < ws → whole2 q = whole q) ∧ ∀ j, 0 ≤ j → j < lenc len sk (k :: r) s → whole2 (ws + j) = byc len bytes sk (k :: r) s j := by
  have hg := hK.2.1
  intro r
  induction r with
  | nil =>
    intro k s ws whole fu h1 h2 h3 h4 h5 h6 h7 h8
    obtain ⟨f, rfl⟩ : ∃ f, fu = f + 1 + 1 := ⟨fu - 2, by simp only [List.length_nil] at h8; omega⟩
    have hk := h2 k List.mem_cons_self
    have kk := hK.2.2 k hk.1 hk.2
    have hn : nx k = -1 := h1.1
    have e : lenc len sk [k] s = mz (len k - s) := by show mz (len k - s) + 0 = _; omega
    rw [e] at h7 ⊢
    simp only [List.length_nil] at h5
    obtain ⟨w2, a1, a2, a3⟩ := laysWhole61_e (ws := ws) (k := k) (s := s) (len := len) (bytes := bytes) (whole := whole) hk.1 (by omega) kk.1 kk.2.1 h4 (by omega) h6 h7
    refine ⟨w2, ?_, a2, fun j u w => by rw [a3 j u w, byc_c, if_pos w]⟩
    simp only [s_X8_laysWhole_54_s]
    by_cases c : len k < s
    · simp (disch := omega) only [cLt_t, cLt_f, cEq_t, cEq_f, cLtL_t, cLtL_f, cEqL_t, cEqL_f, cR_t, cRL_t, cZ_t, cN_t, cCp_t, rdA_t, ob_e, bd1_e, bd2_e, bd3_e, bd4_e, bd5_e, bd6_e, bd7_e, bd8_e, bd9_e, bd10_e, bd12_e, a1, hn]
    · simp (disch := omega) only [cLt_t, cLt_f, cEq_t, cEq_f, cLtL_t, cLtL_f, cEqL_t, cEqL_f, cR_t, cRL_t, cZ_t, cN_t, cCp_t, rdA_t, ob_e, bd1_e, bd2_e, bd3_e, bd4_e, bd5_e, bd6_e, bd7_e, bd8_e, bd9_e, bd10_e, bd12_e, a1, hn]
  | cons k2 r2 ih =>
    intro k s ws whole fu h1 h2 h3 h4 h5 h6 h7 h8
    obtain ⟨f, rfl⟩ : ∃ f, fu = f + 1 := ⟨fu - 1, by omega⟩
    have hk := h2 k List.mem_cons_self
    have kk := hK.2.2 k hk.1 hk.2
    have hk2 := h2 k2 (List.mem_cons_of_mem _ List.mem_cons_self)
    have hn : nx k = k2 := h1.1
    have s2 := h3 k2 List.mem_cons_self
    rw [List.length_cons] at h5 h8
    have e : lenc len sk (k :: k2 :: r2) s = mz (len k - s) + lenc len sk (k2 :: r2) (sk k2 + mz (s - len k)) := rfl
    have n2 := lenc_nn (len := len) (sk := sk) (k2 :: r2) (sk k2 + mz (s - len k))
    have m1 := mz_e (len k - s)
    have m2 := mz_e (s - len k)
    rw [e] at h7 ⊢
    obtain ⟨w2, a1, a2, a3⟩ := laysWhole61_e (ws := ws) (k := k) (s := s) (len := len) (bytes := bytes) (whole := whole) hk.1 (by omega) kk.1 kk.2.1 h4 (by omega) h6 (by omega)
    obtain ⟨w3, b1, b2, b3⟩ := ih k2 (sk k2 + mz (s - len k)) (ws + mz (len k - s)) w2 f h1.2 (fun x hx => h2 x (List.mem_cons_of_mem _ hx)) (fun x hx => h3 x (List.mem_cons_of_mem _ hx)) (by omega) (by omega) (by omega) (by omega) (by omega)
    refine ⟨w3, ?_, fun q u => by rw [b2 q (by omega)]; exact a2 q u, fun j u w => ?_⟩
    · rw [show ws + (mz (len k - s) + lenc len sk (k2 :: r2) (sk k2 + mz (s - len k))) = ws + mz (len k - s) + lenc len sk (k2 :: r2) (sk k2 + mz (s - len k)) by omega, ← b1]
      simp only [s_X8_laysWhole_54_s]
      by_cases c : len k < s
      · rw [show mz (s - len k) = s - len k by omega]
        simp (disch := omega) only [cLt_t, cLt_f, cEq_t, cEq_f, cLtL_t, cLtL_f, cEqL_t, cEqL_f, cR_t, cRL_t, cZ_t, cN_t, cCp_t, rdA_t, ob_e, bd1_e, bd2_e, bd3_e, bd4_e, bd5_e, bd6_e, bd7_e, bd8_e, bd9_e, bd10_e, bd12_e, a1, hn]
      · rw [show mz (s - len k) = 0 by omega]
        simp (disch := omega) only [cLt_t, cLt_f, cEq_t, cEq_f, cLtL_t, cLtL_f, cEqL_t, cEqL_f, cR_t, cRL_t, cZ_t, cN_t, cCp_t, rdA_t, ob_e, bd1_e, bd2_e, bd3_e, bd4_e, bd5_e, bd6_e, bd7_e, bd8_e, bd9_e, bd10_e, bd12_e, a1, hn]
    · rw [byc_c]
      by_cases c : j < mz (len k - s)
      · rw [if_pos c, b2 _ (by omega)]; exact a3 j u c
      · rw [if_neg c]
        have := b3 (j - mz (len k - s)) (by omega) (by omega)
        rw [show ws + mz (len k - s) + (j - mz (len k - s)) = ws + j by omega] at this
        exact this
theorem pf_z {ln : Int → Int} {a : Int} (h0 : 0 ≤ a) : ∀ n : Nat, (∀ i, a ≤ i → i < a + n → ln i = 0) → pf ln (a + n) = pf ln a := by
  intro n
  induction n with
  | zero => intro _; rw [show a + ((0 : Nat) : Int) = a by omega]
  | succ n ih =>
    intro h
    rw [show a + ((n + 1 : Nat) : Int) = a + n + 1 by omega, pf_s (by omega), ih (fun i u w => h i u (by omega)), h (a + n) (by omega) (by omega)]
    omega
/-- with one element left, the area is its bytes -/
theorem JV.one {on gv slots al : Int} {len bytes sg st ln area ov el lg hd tl nx sk ls cl : Int → Int} {C : Int → Prop} (h : JV on gv len bytes C 1 slots al sg st ln area ov el lg hd tl nx sk ls cl) : st (sg 0) = 0 ∧ ln (sg 0) = al := by
  obtain ⟨hCI, hJA, -⟩ := h
  have j0 := hJA.2.2.1 0 (by omega) (by omega)
  obtain ⟨c1, c2, c3, c4, c5, c6⟩ := hCI
  have z : ∀ s, 0 ≤ s → s < slots → s ≠ sg 0 → ln s = 0 := fun s a b n => by
    have := (c3 s a b).1
    by_cases c : 0 < ln s
    · obtain ⟨i, i1, i2, i3⟩ := hJA.2.2.2.2 s a b c
      rw [show i = 0 by omega] at i3
      exact absurd i3.symm n
    · omega
  have e1 := pf_z (ln := ln) (Int.le_refl 0) (sg 0).toNat (fun i a b => z i a (by omega) (by omega))
  rw [show (0 : Int) + (((sg 0).toNat : Nat) : Int) = sg 0 by omega, pf_0] at e1
  have e2 := pf_z (ln := ln) (show 0 ≤ sg 0 + 1 by omega) (slots - (sg 0 + 1)).toNat (fun i a b => z i (by omega) (by omega) (by omega))
  rw [show sg 0 + 1 + (((slots - (sg 0 + 1)).toNat : Nat) : Int) = slots by omega, pf_s j0.1] at e2
  have e3 := (c3 (sg 0) j0.1 j0.2.1).2
  omega
