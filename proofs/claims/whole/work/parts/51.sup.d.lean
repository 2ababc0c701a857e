/-! ===== the superstring: the model's choice of a pair; chains ===== -/
theorem joinsBest9_e {on m : Int} {el lg hd tl : Int → Int} {fM : Int → Int → Int} (hm : 0 ≤ m) (hm2 : m ≤ 40) (hO : ∀ a b, 0 ≤ a → a < m → 0 ≤ b → b < m → a ≠ b → s_X8_overlap on lg hd tl (el a) (el b) = some (fM a b) ∧ 0 ≤ fM a b ∧ fM a b ≤ 15) : ∃ i j v, s_X8_joinsBest_9 FU on m el lg hd tl (-1) (-1) (-1) 0 = some (i, j, v) ∧ BP m (fun a b => a ≠ b) fM m 0 i j v := by
  obtain ⟨w, b1, b2⟩ := loopJ (fun fu (w : Int × Int × Int) a => s_X8_joinsBest_9 fu on m el lg hd tl w.1 w.2.1 w.2.2 a) (fun w => w) 0 m hm (-1, -1, -1) (fun a w => BP m (fun a b => a ≠ b) fM a 0 w.1 w.2.1 w.2.2 ∧ -1 ≤ w.2.2 ∧ w.2.2 ≤ 15) ⟨BP.start, by show (-1 : Int) ≤ -1; omega, by show (-1 : Int) ≤ 15; omega⟩ (by
    intro fu ⟨i, j, v⟩ a g1 g2 g3
    obtain ⟨w, d1, d2⟩ := loopJ (fun fu (w : Int × Int × Int) b => s_X8_joinsBest_21 fu on m el lg hd tl w.1 w.2.1 w.2.2 a b) (fun w => w) 0 m hm (i, j, v) (fun b w => BP m (fun a b => a ≠ b) fM a b w.1 w.2.1 w.2.2 ∧ -1 ≤ w.2.2 ∧ w.2.2 ≤ 15) g3 (by
      intro fu ⟨i, j, v⟩ b e1 e2 ⟨e3, e4, e5⟩
      have e3 : BP m (fun a b => a ≠ b) fM a b i j v := e3
      have e4 : -1 ≤ v := e4
      have e5 : v ≤ 15 := e5
      simp only [s_X8_joinsBest_21_s]
      by_cases k : a = b
      · refine ⟨(i, j, v), ⟨e3.no (fun q => q k), e4, e5⟩, ?_⟩
        simp (disch := omega) only [cLt_t, cLt_f, cEq_t, cEq_f, cLtL_t, cLtL_f, cEqL_t, cEqL_f, cR_t, cRL_t, cZ_t, cN_t, cCp_t, rdA_t, ob_e, bd1_e, bd2_e, bd3_e, bd4_e, bd5_e, bd6_e, bd7_e, bd8_e, bd9_e, bd10_e, bd12_e]
      · have ho := hO a b g1 g2 e1 e2 k
        by_cases k2 : v < fM a b
        · refine ⟨(a, b, fM a b), ⟨e3.put k k2 g1 g2 e1 e2, by show -1 ≤ fM a b; omega, by show fM a b ≤ 15; omega⟩, ?_⟩
          have hq := ho.1
          simp (disch := omega) only [cLt_t, cLt_f, cEq_t, cEq_f, cLtL_t, cLtL_f, cEqL_t, cEqL_f, cR_t, cRL_t, cZ_t, cN_t, cCp_t, rdA_t, ob_e, bd1_e, bd2_e, bd3_e, bd4_e, bd5_e, bd6_e, bd7_e, bd8_e, bd9_e, bd10_e, bd12_e, hq]
        · refine ⟨(i, j, v), ⟨e3.keep (by omega) (by omega), e4, e5⟩, ?_⟩
          have hq := ho.1
          simp (disch := omega) only [cLt_t, cLt_f, cEq_t, cEq_f, cLtL_t, cLtL_f, cEqL_t, cEqL_f, cR_t, cRL_t, cZ_t, cN_t, cCp_t, rdA_t, ob_e, bd1_e, bd2_e, bd3_e, bd4_e, bd5_e, bd6_e, bd7_e, bd8_e, bd9_e, bd10_e, bd12_e, hq]) (by
      intro fu w _
      simp only [s_X8_joinsBest_21_s]
      simp (disch := omega) only [cLt_t, cLt_f, cEq_t, cEq_f, cLtL_t, cLtL_f, cEqL_t, cEqL_f, cR_t, cRL_t, cZ_t, cN_t, cCp_t, rdA_t, ob_e, bd1_e, bd2_e, bd3_e, bd4_e, bd5_e, bd6_e, bd7_e, bd8_e, bd9_e, bd10_e, bd12_e]) FU (FU_lt (by omega))
    obtain ⟨i2, j2, v2⟩ := w
    have d2 : s_X8_joinsBest_21 FU on m el lg hd tl i j v a 0 = some (i2, j2, v2) := d2
    refine ⟨(i2, j2, v2), ⟨d1.1.row, d1.2⟩, ?_⟩
    simp only [s_X8_joinsBest_9_s]
    simp (disch := omega) only [cLt_t, cLt_f, cEq_t, cEq_f, cLtL_t, cLtL_f, cEqL_t, cEqL_f, cR_t, cRL_t, cZ_t, cN_t, cCp_t, rdA_t, ob_e, bd1_e, bd2_e, bd3_e, bd4_e, bd5_e, bd6_e, bd7_e, bd8_e, bd9_e, bd10_e, bd12_e, d2]) (by
    intro fu w _
    simp only [s_X8_joinsBest_9_s]
    simp (disch := omega) only [cLt_t, cLt_f, cEq_t, cEq_f, cLtL_t, cLtL_f, cEqL_t, cEqL_f, cR_t, cRL_t, cZ_t, cN_t, cCp_t, rdA_t, ob_e, bd1_e, bd2_e, bd3_e, bd4_e, bd5_e, bd6_e, bd7_e, bd8_e, bd9_e, bd10_e, bd12_e]) FU (FU_lt (by omega))
  obtain ⟨i, j, v⟩ := w
  exact ⟨i, j, v, b2, b1.1⟩
def shf (f : Int → Int) (j : Int) : Int → Int := fun t => if t < j then f t else f (t + 1)
theorem joinsBest121_e {m j : Int} {el : Int → Int} (hm2 : m ≤ 40) (hj : 0 ≤ j) (hj2 : j < m) : ∃ el2, s_X8_joinsBest_121 FU (m - 1) el j = some el2 ∧ ∀ t, 0 ≤ t → t < m - 1 → el2 t = shf el j t := by
  obtain ⟨w, b1, b2⟩ := loopJ (fun fu (w : Int → Int) l => s_X8_joinsBest_121 fu (m - 1) w l) (fun w => w) j (m - 1) (by omega) el (fun l w => (∀ t, t < j → w t = el t) ∧ (∀ t, j ≤ t → t < l → w t = el (t + 1)) ∧ ∀ t, l ≤ t → w t = el t) ⟨fun t a => rfl, fun t a b => by omega, fun t a => rfl⟩ (by
    intro fu w l g1 g2 ⟨g3, g4, g5⟩
    refine ⟨upA w l (w (l + 1)), ⟨fun t a => ?_, fun t a b => ?_, fun t a => ?_⟩, ?_⟩
    · rw [upA_n (by omega)]; exact g3 t a
    · by_cases d : t = l
      · rw [d, upA_s]; exact g5 _ (by omega)
      · rw [upA_n d]; exact g4 t a (by omega)
    · rw [upA_n (by omega)]; exact g5 t (by omega)
    · simp only [s_X8_joinsBest_121_s]
      simp (disch := omega) only [cLt_t, cLt_f, cEq_t, cEq_f, cLtL_t, cLtL_f, cEqL_t, cEqL_f, cR_t, cRL_t, cZ_t, cN_t, cCp_t, rdA_t, ob_e, bd1_e, bd2_e, bd3_e, bd4_e, bd5_e, bd6_e, bd7_e, bd8_e, bd9_e, bd10_e, bd12_e]) (by
    intro fu w _
    simp only [s_X8_joinsBest_121_s]
    simp (disch := omega) only [cLt_t, cLt_f, cEq_t, cEq_f, cLtL_t, cLtL_f, cEqL_t, cEqL_f, cR_t, cRL_t, cZ_t, cN_t, cCp_t, rdA_t, ob_e, bd1_e, bd2_e, bd3_e, bd4_e, bd5_e, bd6_e, bd7_e, bd8_e, bd9_e, bd10_e, bd12_e]) FU (FU_lt (by omega))
  have b2 : s_X8_joinsBest_121 FU (m - 1) el j = some w := b2
  refine ⟨w, b2, fun t a b => ?_⟩
  unfold shf
  by_cases c : t < j
  · rw [if_pos c]; exact b1.1 t c
  · rw [if_neg c]; exact b1.2.1 t (by omega) b
/-- which slots are not empty, and which elements they are -/
def JA (gv m slots : Int) (sg ln el : Int → Int) : Prop := 0 ≤ m ∧ m ≤ 40 ∧ (∀ i, 0 ≤ i → i < m → 0 ≤ sg i ∧ sg i < slots ∧ 0 < ln (sg i) ∧ 0 ≤ el i ∧ el i < gv) ∧ (∀ i j, 0 ≤ i → i < j → j < m → sg i < sg j ∧ el i < el j) ∧ ∀ s, 0 ≤ s → s < slots → 0 < ln s → ∃ i, 0 ≤ i ∧ i < m ∧ sg i = s
theorem JA.inj {gv m slots i j : Int} {sg ln el : Int → Int} (h : JA gv m slots sg ln el) (h1 : 0 ≤ i) (h2 : i < m) (h3 : 0 ≤ j) (h4 : j < m) (hn : i ≠ j) : sg i ≠ sg j ∧ el i ≠ el j := by
  rcases Int.lt_trichotomy i j with q | q | q
  · have := h.2.2.2.1 i j h1 q h4; omega
  · exact absurd q hn
  · have := h.2.2.2.1 j i h3 q h2; omega
theorem JA.lt {gv m slots i j : Int} {sg ln el : Int → Int} (h : JA gv m slots sg ln el) (h1 : 0 ≤ i) (h2 : i < m) (h3 : 0 ≤ j) (h4 : j < m) : sg i < sg j ↔ i < j := by
  constructor
  · intro q
    rcases Int.lt_trichotomy i j with r | r | r
    · exact r
    · rw [r] at q; omega
    · have := h.2.2.2.1 j i h3 r h2; omega
  · intro q; exact (h.2.2.2.1 i j h1 q h4).1
theorem pair_same {gv m slots i j v x y w : Int} {sg ln el : Int → Int} {fM fS : Int → Int → Int} (h : JA gv m slots sg ln el) (hm : 2 ≤ m) (hf : ∀ a b, 0 ≤ a → a < m → 0 ≤ b → b < m → a ≠ b → fM a b = fS (sg a) (sg b)) (hM : BP m (fun a b => a ≠ b) fM m 0 i j v) (hS : BP slots (QS ln) fS slots 0 x y w) : 0 ≤ i ∧ i < m ∧ 0 ≤ j ∧ j < m ∧ i ≠ j ∧ x = sg i ∧ y = sg j ∧ w = v ∧ v = fM i j := by
  have hq : ∀ a b, 0 ≤ a → a < m → 0 ≤ b → b < m → a ≠ b → QS ln (sg a) (sg b) := fun a b p q r s t => ⟨(h.inj p q r s t).1, (h.2.2.1 a p q).2.2.1, (h.2.2.1 b r s).2.2.1⟩
  have hr : ∀ a, 0 ≤ a → a < m → 0 ≤ sg a ∧ sg a < slots := fun a p q => ⟨(h.2.2.1 a p q).1, (h.2.2.1 a p q).2.1⟩
  rcases hM with ⟨a1, a2, a3, a4⟩ | ⟨a1, a2, a3, a4, a5, a6, a7, a8, a9⟩
  · exact absurd (show (0 : Int) ≠ 1 by omega) (a4 0 1 (by omega) (by omega) (by omega) (by omega))
  · rcases hS with ⟨b1, b2, b3, b4⟩ | ⟨b1, b2, b3, b4, b5, b6, b7, b8, b9⟩
    · have r0 := hr 0 (by omega) (by omega)
      have r1 := hr 1 (by omega) (by omega)
      exact absurd (hq 0 1 (by omega) (by omega) (by omega) (by omega) (by omega)) (b4 _ _ r0.1 r1.1 r1.2 (Or.inl r0.2))
    · obtain ⟨i2, c1, c2, c3⟩ := h.2.2.2.2 x b1 b2 b6.2.1
      obtain ⟨j2, d1, d2, d3⟩ := h.2.2.2.2 y b3 b4 b6.2.2
      have hne : i2 ≠ j2 := fun e => b6.1 (by rw [← c3, ← d3, e])
      have e1 := hf i2 j2 c1 c2 d1 d2 hne
      rw [c3, d3] at e1
      have e2 := hf i j a1 a2 a3 a4 a6
      have ri := hr i a1 a2
      have rj := hr j a3 a4
      have q1 := a8 i2 j2 c1 d1 d2 (Or.inl c2) hne
      have q2 := b8 (sg i) (sg j) ri.1 rj.1 rj.2 (Or.inl ri.2) (hq i j a1 a2 a3 a4 a6)
      have ew : w = v := by omega
      have n1 : ¬ (i2 < i ∨ (i2 = i ∧ j2 < j)) := fun q => by
        have := a9 i2 j2 c1 d1 d2 q hne; omega
      have n2 : ¬ (sg i < x ∨ (sg i = x ∧ sg j < y)) := fun q => by
        have := b9 (sg i) (sg j) ri.1 rj.1 rj.2 q (hq i j a1 a2 a3 a4 a6); omega
      have l1 := h.lt a1 a2 c1 c2
      have l2 := h.lt a3 a4 d1 d2
      rw [c3] at l1
      rw [d3] at l2
      have ei : i = i2 := by
        rcases Int.lt_trichotomy i i2 with q | q | q
        · exact absurd (Or.inl (l1.mpr q)) n2
        · exact q
        · exact absurd (Or.inl q) n1
      have ej : j = j2 := by
        rcases Int.lt_trichotomy j j2 with q | q | q
        · exact absurd (Or.inr ⟨by rw [ei, c3], l2.mpr q⟩) n2
        · exact q
        · exact absurd (Or.inr ⟨ei.symm, q⟩) n1
      exact ⟨a1, a2, a3, a4, a6, by rw [ei, c3], by rw [ej, d3], ew, a7⟩
/-! chains of keywords -/
def mz (a : Int) : Int := if a < 0 then 0 else a
theorem mz_e (a : Int) : (a < 0 ∧ mz a = 0) ∨ (0 ≤ a ∧ mz a = a) := by
  unfold mz; split <;> omega
def nxs (sk : Int → Int) : List Int → Int
  | [] => 0
  | h :: _ => sk h
def lenc (len sk : Int → Int) : List Int → Int → Int
  | [], _ => 0
  | k :: r, s => mz (len k - s) + lenc len sk r (nxs sk r + mz (s - len k))
def byc (len bytes sk : Int → Int) : List Int → Int → Int → Int
  | [], _, _ => 0
  | k :: r, s, j => if j < mz (len k - s) then bytes (16 * k + s + j) else byc len bytes sk r (nxs sk r + mz (s - len k)) (j - mz (len k - s))
def carc (len sk : Int → Int) : List Int → Int → Int
  | [], s => s
  | k :: r, s => carc len sk r (nxs sk r + mz (s - len k))
theorem lenc_c {len sk : Int → Int} {k : Int} {r : List Int} {s : Int} : lenc len sk (k :: r) s = mz (len k - s) + lenc len sk r (nxs sk r + mz (s - len k)) := rfl
theorem byc_c {len bytes sk : Int → Int} {k : Int} {r : List Int} {s j : Int} : byc len bytes sk (k :: r) s j = if j < mz (len k - s) then bytes (16 * k + s + j) else byc len bytes sk r (nxs sk r + mz (s - len k)) (j - mz (len k - s)) := rfl
theorem carc_c {len sk : Int → Int} {k : Int} {r : List Int} {s : Int} : carc len sk (k :: r) s = carc len sk r (nxs sk r + mz (s - len k)) := rfl
theorem lenc_nn {len sk : Int → Int} : ∀ (c : List Int) (s : Int), 0 ≤ lenc len sk c s := by
  intro c
  induction c with
  | nil => intro s; exact Int.le_refl _
  | cons k r ih =>
    intro s
    rw [lenc_c]
    have := ih (nxs sk r + mz (s - len k))
    have := mz_e (len k - s)
    omega
theorem lenc_add {len sk : Int → Int} : ∀ (c : List Int) (a b : Int), 0 ≤ b → lenc len sk c (a + b) = mz (lenc len sk c a - b) := by
  intro c
  induction c with
  | nil => intro a b h; show 0 = mz (0 - b); have := mz_e (0 - b); omega
  | cons k r ih =>
    intro a b h
    rw [lenc_c, lenc_c]
    have n1 := lenc_nn (len := len) (sk := sk) r (nxs sk r + 0)
    have m1 := mz_e (len k - (a + b))
    have m2 := mz_e (a + b - len k)
    have m3 := mz_e (len k - a)
    have m4 := mz_e (a - len k)
    by_cases c1 : a + b ≤ len k
    · rw [show mz (a + b - len k) = 0 by omega, show mz (a - len k) = 0 by omega]
      have m5 := mz_e (mz (len k - a) + lenc len sk r (nxs sk r + 0) - b)
      omega
    · by_cases c2 : a ≤ len k
      · have i1 := ih (nxs sk r + 0) (a + b - len k) (by omega)
        rw [show nxs sk r + 0 + (a + b - len k) = nxs sk r + mz (a + b - len k) by omega] at i1
        rw [i1, show mz (a - len k) = 0 by omega]
        have m5 := mz_e (mz (len k - a) + lenc len sk r (nxs sk r + 0) - b)
        have m6 := mz_e (lenc len sk r (nxs sk r + 0) - (a + b - len k))
        omega
      · have i1 := ih (nxs sk r + mz (a - len k)) b h
        rw [show nxs sk r + mz (a - len k) + b = nxs sk r + mz (a + b - len k) by omega] at i1
        rw [i1]
        have m5 := mz_e (mz (len k - a) + lenc len sk r (nxs sk r + mz (a - len k)) - b)
        have m6 := mz_e (lenc len sk r (nxs sk r + mz (a - len k)) - b)
        omega
theorem byc_add {len bytes sk : Int → Int} : ∀ (c : List Int) (a b j : Int), 0 ≤ b → 0 ≤ j → byc len bytes sk c (a + b) j = byc len bytes sk c a (j + b) := by
  intro c
  induction c with
  | nil => intro a b j h hj; rfl
  | cons k r ih =>
    intro a b j h hj
    rw [byc_c, byc_c]
    have m1 := mz_e (len k - (a + b))
    have m2 := mz_e (a + b - len k)
    have m3 := mz_e (len k - a)
    have m4 := mz_e (a - len k)
    by_cases c1 : a + b ≤ len k
    · rw [show mz (a + b - len k) = 0 by omega, show mz (a - len k) = 0 by omega]
      by_cases c3 : j < mz (len k - (a + b))
      · rw [if_pos c3, if_pos (by omega)]
        congr 1; omega
      · rw [if_neg c3, if_neg (by omega)]
        congr 1; omega
    · rw [if_neg (by omega)]
      by_cases c2 : a ≤ len k
      · have i1 := ih (nxs sk r + 0) (a + b - len k) j (by omega) hj
        rw [show nxs sk r + 0 + (a + b - len k) = nxs sk r + mz (a + b - len k) by omega] at i1
        rw [if_neg (by omega), show j - mz (len k - (a + b)) = j by omega, i1, show mz (a - len k) = 0 by omega]
        congr 1; omega
      · have i1 := ih (nxs sk r + mz (a - len k)) b j h hj
        rw [show nxs sk r + mz (a - len k) + b = nxs sk r + mz (a + b - len k) by omega] at i1
        rw [if_neg (by omega), show j - mz (len k - (a + b)) = j by omega, i1]
        congr 1; omega
theorem carc_add {len sk : Int → Int} : ∀ (c : List Int) (a b : Int), 0 ≤ b → carc len sk c (a + b) = carc len sk c a + mz (b - lenc len sk c a) := by
  intro c
  induction c with
  | nil => intro a b h; show a + b = a + mz (b - 0); have := mz_e (b - 0); omega
  | cons k r ih =>
    intro a b h
    rw [carc_c, carc_c, lenc_c]
    have n1 := lenc_nn (len := len) (sk := sk) r (nxs sk r + 0)
    have m1 := mz_e (len k - (a + b))
    have m2 := mz_e (a + b - len k)
    have m3 := mz_e (len k - a)
    have m4 := mz_e (a - len k)
    by_cases c1 : a + b ≤ len k
    · rw [show mz (a + b - len k) = 0 by omega, show mz (a - len k) = 0 by omega]
      have m5 := mz_e (b - (mz (len k - a) + lenc len sk r (nxs sk r + 0)))
      omega
    · by_cases c2 : a ≤ len k
      · have i1 := ih (nxs sk r + 0) (a + b - len k) (by omega)
        rw [show nxs sk r + 0 + (a + b - len k) = nxs sk r + mz (a + b - len k) by omega] at i1
        rw [i1, show mz (a - len k) = 0 by omega]
        have m5 := mz_e (b - (mz (len k - a) + lenc len sk r (nxs sk r + 0)))
        have m6 := mz_e (a + b - len k - lenc len sk r (nxs sk r + 0))
        omega
      · have i1 := ih (nxs sk r + mz (a - len k)) b h
        rw [show nxs sk r + mz (a - len k) + b = nxs sk r + mz (a + b - len k) by omega] at i1
        rw [i1]
        have m5 := mz_e (b - (mz (len k - a) + lenc len sk r (nxs sk r + mz (a - len k))))
        have m6 := mz_e (b - lenc len sk r (nxs sk r + mz (a - len k)))
        omega
theorem chain_app {len bytes sk : Int → Int} {h : Int} {t : List Int} : ∀ (r : List Int) (k s : Int), lenc len sk ((k :: r) ++ h :: t) s = lenc len sk (k :: r) s + lenc len sk (h :: t) (sk h + carc len sk (k :: r) s) ∧ carc len sk ((k :: r) ++ h :: t) s = carc len sk (h :: t) (sk h + carc len sk (k :: r) s) ∧ ∀ j, 0 ≤ j → byc len bytes sk ((k :: r) ++ h :: t) s j = if j < lenc len sk (k :: r) s then byc len bytes sk (k :: r) s j else byc len bytes sk (h :: t) (sk h + carc len sk (k :: r) s) (j - lenc len sk (k :: r) s) := by
  intro r
  induction r with
  | nil =>
    intro k s
    have e1 : lenc len sk [k] s = mz (len k - s) := by show mz (len k - s) + 0 = _; omega
    have e2 : carc len sk [k] s = mz (s - len k) := by show 0 + mz (s - len k) = _; omega
    have e3 : nxs sk (h :: t) = sk h := rfl
    refine ⟨?_, ?_, fun j hj => ?_⟩
    · rw [e1, e2]; rfl
    · rw [e2]; rfl
    · rw [e1, e2]
      show (if j < mz (len k - s) then bytes (16 * k + s + j) else byc len bytes sk (h :: t) (sk h + mz (s - len k)) (j - mz (len k - s))) = _
      by_cases c : j < mz (len k - s)
      · rw [if_pos c, if_pos c, byc_c, if_pos c]
      · rw [if_neg c, if_neg c]
  | cons k2 r2 ih =>
    intro k s
    obtain ⟨i1, i2, i3⟩ := ih k2 (sk k2 + mz (s - len k))
    have n1 := lenc_nn (len := len) (sk := sk) (k2 :: r2) (sk k2 + mz (s - len k))
    have m1 := mz_e (len k - s)
    have e1 : lenc len sk (k :: k2 :: r2) s = mz (len k - s) + lenc len sk (k2 :: r2) (sk k2 + mz (s - len k)) := rfl
    have e2 : carc len sk (k :: k2 :: r2) s = carc len sk (k2 :: r2) (sk k2 + mz (s - len k)) := rfl
    refine ⟨?_, ?_, fun j hj => ?_⟩
    · show mz (len k - s) + lenc len sk ((k2 :: r2) ++ h :: t) (sk k2 + mz (s - len k)) = _
      rw [i1, e1, e2]; omega
    · show carc len sk ((k2 :: r2) ++ h :: t) (sk k2 + mz (s - len k)) = _
      rw [i2, e2]
    · show (if j < mz (len k - s) then bytes (16 * k + s + j) else byc len bytes sk ((k2 :: r2) ++ h :: t) (sk k2 + mz (s - len k)) (j - mz (len k - s))) = _
      rw [e1, e2]
      by_cases c : j < mz (len k - s)
      · rw [if_pos c, if_pos (by omega), byc_c, if_pos c]
      · rw [if_neg c, i3 _ (by omega)]
        by_cases c2 : j - mz (len k - s) < lenc len sk (k2 :: r2) (sk k2 + mz (s - len k))
        · have e3 : byc len bytes sk (k :: k2 :: r2) s j = byc len bytes sk (k2 :: r2) (sk k2 + mz (s - len k)) (j - mz (len k - s)) := by
            rw [byc_c (k := k) (r := k2 :: r2), if_neg c]; rfl
          rw [if_pos c2, if_pos (by omega), e3]
        · rw [if_neg c2, if_neg (by omega)]
          congr 1; omega
/-- only the skips behind the first matter -/
theorem chain_cg {len bytes sk sk2 : Int → Int} : ∀ (r : List Int) (k s : Int), (∀ x ∈ r, sk2 x = sk x) → lenc len sk2 (k :: r) s = lenc len sk (k :: r) s ∧ carc len sk2 (k :: r) s = carc len sk (k :: r) s ∧ ∀ j, byc len bytes sk2 (k :: r) s j = byc len bytes sk (k :: r) s j := by
  intro r
  induction r with
  | nil => intro k s _; exact ⟨rfl, rfl, fun j => rfl⟩
  | cons k2 r2 ih =>
    intro k s he
    have e : sk2 k2 = sk k2 := he k2 (List.mem_cons_self)
    obtain ⟨i1, i2, i3⟩ := ih k2 (sk k2 + mz (s - len k)) (fun x hx => he x (List.mem_cons_of_mem _ hx))
    refine ⟨?_, ?_, fun j => ?_⟩
    · show mz (len k - s) + lenc len sk2 (k2 :: r2) (sk2 k2 + mz (s - len k)) = mz (len k - s) + lenc len sk (k2 :: r2) (sk k2 + mz (s - len k))
      rw [e, i1]
    · show carc len sk2 (k2 :: r2) (sk2 k2 + mz (s - len k)) = carc len sk (k2 :: r2) (sk k2 + mz (s - len k))
      rw [e, i2]
    · show (if j < mz (len k - s) then bytes (16 * k + s + j) else byc len bytes sk2 (k2 :: r2) (sk2 k2 + mz (s - len k)) (j - mz (len k - s))) = (if j < mz (len k - s) then bytes (16 * k + s + j) else byc len bytes sk (k2 :: r2) (sk k2 + mz (s - len k)) (j - mz (len k - s)))
      rw [e, i3]
def LK (nx : Int → Int) : List Int → Prop
  | [] => True
  | k :: r => (match r with | [] => nx k = -1 | k2 :: _ => nx k = k2) ∧ LK nx r
def lst : Int → List Int → Int
  | k, [] => k
  | _, k2 :: r => lst k2 r
theorem lst_mem : ∀ (r : List Int) (k : Int), lst k r ∈ k :: r := by
  intro r
  induction r with
  | nil => intro k; exact List.mem_cons_self
  | cons k2 r2 ih => intro k; exact List.mem_cons_of_mem _ (ih k2)
theorem lst_app : ∀ (r : List Int) (k h : Int) (t : List Int), lst k (r ++ h :: t) = lst h t := by
  intro r
  induction r with
  | nil => intro k h t; rfl
  | cons k2 r2 ih => intro k h t; exact ih k2 h t
theorem LK_last {nx : Int → Int} : ∀ (r : List Int) (k : Int), LK nx (k :: r) → nx (lst k r) = -1 := by
  intro r
  induction r with
  | nil => intro k h; exact h.1
  | cons k2 r2 ih => intro k h; exact ih k2 h.2
theorem LK_mem {nx : Int → Int} : ∀ (r : List Int) (k x : Int), LK nx (k :: r) → x ∈ k :: r → x = lst k r ∨ nx x ∈ k :: r := by
  intro r
  induction r with
  | nil =>
    intro k x h hx
    rcases List.mem_cons.mp hx with e | e
    · exact Or.inl e
    · exact absurd e (List.not_mem_nil)
  | cons k2 r2 ih =>
    intro k x h hx
    rcases List.mem_cons.mp hx with e | e
    · right
      have h1 : nx k = k2 := h.1
      rw [e, h1]
      exact List.mem_cons_of_mem _ List.mem_cons_self
    · rcases ih k2 x h.2 e with q | q
      · exact Or.inl q
      · exact Or.inr (List.mem_cons_of_mem _ q)
theorem LK_up {nx : Int → Int} {p y : Int} : ∀ (c : List Int), LK nx c → p ∉ c → LK (upA nx p y) c := by
  intro c
  induction c with
  | nil => intro _ _; trivial
  | cons k r ih =>
    intro h hp
    have hk : k ≠ p := fun e => hp (by rw [e]; exact List.mem_cons_self)
    refine ⟨?_, ih h.2 (fun q => hp (List.mem_cons_of_mem _ q))⟩
    cases r with
    | nil => show upA nx p y k = -1; rw [upA_n hk]; exact h.1
    | cons k2 r2 => show upA nx p y k = k2; rw [upA_n hk]; exact h.1
theorem LK_app {nx : Int → Int} {y : Int} {t : List Int} : ∀ (r : List Int) (k : Int), LK nx (k :: r) → (∀ x ∈ k :: r, 0 ≤ x) → LK (upA nx (lst k r) y) (y :: t) → LK (upA nx (lst k r) y) ((k :: r) ++ y :: t) := by
  intro r
  induction r with
  | nil => intro k h _ h2; exact ⟨by show upA nx k y k = y; exact upA_s, h2⟩
  | cons k2 r2 ih =>
    intro k h hn h2
    have h1 : nx k = k2 := h.1
    have hl : nx (lst k2 r2) = -1 := LK_last r2 k2 h.2
    have h0 := hn k2 (List.mem_cons_of_mem _ List.mem_cons_self)
    have hk : k ≠ lst k2 r2 := fun e => by rw [← e] at hl; omega
    exact ⟨by show upA nx (lst k2 r2) y k = k2; rw [upA_n hk]; exact h1, ih k2 h.2 (fun x hx => hn x (List.mem_cons_of_mem _ hx)) h2⟩
