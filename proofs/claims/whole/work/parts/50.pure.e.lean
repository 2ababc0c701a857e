/-! ===== buckets ===== -/
def p2 (l : Int) : Int := if l = 0 then 1 else if l = 1 then 2 else if l = 2 then 4 else if l = 3 then 8 else if l = 4 then 16 else if l = 5 then 32 else if l = 6 then 64 else 128
def szc (c l : Int) : Int := c / p2 l % 2 * p2 l
def fsc (c l : Int) : Int := c / (2 * p2 l) * (2 * p2 l)
def lowb (n : Int) : Int := if n % 2 = 1 then 1 else if n % 4 = 2 then 2 else if n % 8 = 4 then 4 else if n % 16 = 8 then 8 else if n % 32 = 16 then 16 else if n % 64 = 32 then 32 else 64
theorem bit_szF : ∀ c : Fin 128, ∀ l : Fin 7, iAnd (c.val : Int) (iShl 1 (l.val : Int)) = szc (c.val : Int) (l.val : Int) := by decide +kernel
theorem bit_fsF : ∀ c : Fin 128, ∀ l : Fin 7, iAnd (c.val : Int) (-(iShl 2 (l.val : Int))) = fsc (c.val : Int) (l.val : Int) := by decide +kernel
theorem bit_lowF : ∀ c : Fin 127, iAnd ((c.val : Int) + 1) (-((c.val : Int) + 1)) = lowb ((c.val : Int) + 1) := by decide +kernel
theorem sz_stepF : ∀ c : Fin 127, ∀ t l : Fin 7, (c.val : Int) % p2 (t.val : Int) = p2 (t.val : Int) - 1 → szc (c.val : Int) (t.val : Int) = 0 →
    (l.val < t.val → szc ((c.val : Int) + 1) (l.val : Int) = 0) ∧ (l.val = t.val → szc ((c.val : Int) + 1) (l.val : Int) = p2 (t.val : Int) ∧ fsc ((c.val : Int) + 1) (l.val : Int) = (c.val : Int) + 1 - p2 (t.val : Int)) ∧ (t.val < l.val → szc ((c.val : Int) + 1) (l.val : Int) = szc (c.val : Int) (l.val : Int) ∧ fsc ((c.val : Int) + 1) (l.val : Int) = fsc (c.val : Int) (l.val : Int)) ∧ lowb ((c.val : Int) + 1) = p2 (t.val : Int) := by decide +kernel
theorem sz_goF : ∀ c : Fin 127, ∀ t : Fin 7, (c.val : Int) % p2 (t.val : Int) = p2 (t.val : Int) - 1 → szc (c.val : Int) (t.val : Int) ≠ 0 → t.val < 6 ∧ szc (c.val : Int) (t.val : Int) = p2 (t.val : Int) ∧ (c.val : Int) % p2 ((t.val : Int) + 1) = p2 ((t.val : Int) + 1) - 1 ∧ p2 ((t.val : Int) + 1) = 2 * p2 (t.val : Int) ∧ fsc (c.val : Int) (t.val : Int) + szc (c.val : Int) (t.val : Int) = (c.val : Int) + 1 - p2 (t.val : Int) := by decide +kernel
theorem sz_rgF : ∀ c : Fin 128, ∀ l : Fin 7, 0 ≤ szc (c.val : Int) (l.val : Int) ∧ szc (c.val : Int) (l.val : Int) ≤ p2 (l.val : Int) ∧ 0 ≤ fsc (c.val : Int) (l.val : Int) ∧ fsc (c.val : Int) (l.val : Int) + szc (c.val : Int) (l.val : Int) ≤ (c.val : Int) := by decide +kernel
theorem p2F : ∀ l : Fin 7, 1 ≤ p2 (l.val : Int) ∧ p2 (l.val : Int) ≤ 64 := by decide +kernel
theorem bit_sz {c l : Int} (h1 : 0 ≤ c) (h2 : c < 128) (h3 : 0 ≤ l) (h4 : l < 7) : iAnd c (iShl 1 l) = szc c l := by
  obtain ⟨a, rfl⟩ := Int.eq_ofNat_of_zero_le h1
  obtain ⟨b, rfl⟩ := Int.eq_ofNat_of_zero_le h3
  exact bit_szF ⟨a, by omega⟩ ⟨b, by omega⟩
theorem bit_fs {c l : Int} (h1 : 0 ≤ c) (h2 : c < 128) (h3 : 0 ≤ l) (h4 : l < 7) : iAnd c (-(iShl 2 l)) = fsc c l := by
  obtain ⟨a, rfl⟩ := Int.eq_ofNat_of_zero_le h1
  obtain ⟨b, rfl⟩ := Int.eq_ofNat_of_zero_le h3
  exact bit_fsF ⟨a, by omega⟩ ⟨b, by omega⟩
theorem bit_low {c : Int} (h1 : 0 ≤ c) (h2 : c < 127) : iAnd (c + 1) (-(c + 1)) = lowb (c + 1) := by
  obtain ⟨a, rfl⟩ := Int.eq_ofNat_of_zero_le h1
  exact bit_lowF ⟨a, by omega⟩
theorem sz_step {c t l : Int} (h1 : 0 ≤ c) (h2 : c < 127) (h3 : 0 ≤ t) (h4 : t < 7) (h5 : 0 ≤ l) (h6 : l < 7) (h7 : c % p2 t = p2 t - 1) (h8 : szc c t = 0) :
    (l < t → szc (c + 1) l = 0) ∧ (l = t → szc (c + 1) l = p2 t ∧ fsc (c + 1) l = c + 1 - p2 t) ∧ (t < l → szc (c + 1) l = szc c l ∧ fsc (c + 1) l = fsc c l) ∧ lowb (c + 1) = p2 t := by
  obtain ⟨a, rfl⟩ := Int.eq_ofNat_of_zero_le h1
  obtain ⟨b, rfl⟩ := Int.eq_ofNat_of_zero_le h3
  obtain ⟨d, rfl⟩ := Int.eq_ofNat_of_zero_le h5
  have := sz_stepF ⟨a, by omega⟩ ⟨b, by omega⟩ ⟨d, by omega⟩ h7 h8
  exact ⟨fun q => this.1 (by show d < b; omega), fun q => this.2.1 (by show d = b; omega), fun q => this.2.2.1 (by show b < d; omega), this.2.2.2⟩
theorem sz_go {c t : Int} (h1 : 0 ≤ c) (h2 : c < 127) (h3 : 0 ≤ t) (h4 : t < 7) (h7 : c % p2 t = p2 t - 1) (h8 : szc c t ≠ 0) : t < 6 ∧ szc c t = p2 t ∧ c % p2 (t + 1) = p2 (t + 1) - 1 ∧ p2 (t + 1) = 2 * p2 t ∧ fsc c t + szc c t = c + 1 - p2 t := by
  obtain ⟨a, rfl⟩ := Int.eq_ofNat_of_zero_le h1
  obtain ⟨b, rfl⟩ := Int.eq_ofNat_of_zero_le h3
  have := sz_goF ⟨a, by omega⟩ ⟨b, by omega⟩ h7 h8
  exact ⟨by have h9 : b < 6 := this.1; omega, this.2⟩
theorem sz_rg {c l : Int} (h1 : 0 ≤ c) (h2 : c < 128) (h3 : 0 ≤ l) (h4 : l < 7) : 0 ≤ szc c l ∧ szc c l ≤ p2 l ∧ 0 ≤ fsc c l ∧ fsc c l + szc c l ≤ c := by
  obtain ⟨a, rfl⟩ := Int.eq_ofNat_of_zero_le h1
  obtain ⟨b, rfl⟩ := Int.eq_ofNat_of_zero_le h3
  exact sz_rgF ⟨a, by omega⟩ ⟨b, by omega⟩
theorem p2_rg {l : Int} (h3 : 0 ≤ l) (h4 : l < 7) : 1 ≤ p2 l ∧ p2 l ≤ 64 := by
  obtain ⟨b, rfl⟩ := Int.eq_ofNat_of_zero_le h3
  exact p2F ⟨b, by omega⟩
/-- one set of buckets: the class's row of members, and the model's sizes and lists -/
def BK (o c : Int) (mem size list : Int → Int) : Prop := ∀ l, 0 ≤ l → l < 7 → size (o + l) = szc c l ∧ ∀ i, 0 ≤ i → i < szc c l → list (128 * (o + l) + i) = mem (fsc c l + szc c l - 1 - i)
theorem X0_insert_e {c k : Int} {mem : Int → Int} (h1 : 0 ≤ c) (h2 : c < 127) : s_X0_insert c mem k = some (lowb (c + 1), c + 1, upA mem c k) := by
  unfold s_X0_insert s_X0_storedSize
  simp (disch := omega) only [cLt_t, cLt_f, cEq_t, cEq_f, cLtL_t, cLtL_f, cEqL_t, cEqL_f, cR_t, cRL_t, cZ_t, cN_t, cCp_t, rdA_t, ob_e, bd1_e, bd2_e, bd3_e, bd4_e, bd5_e, bd6_e, bd7_e, bd8_e, bd9_e, bd10_e, bd12_e, bit_low]
theorem X8_inserts_25_e {size list moved : Int → Int} {many l n : Int} (h1 : 0 ≤ l) (h2 : l < 14) (h3 : size l = n) (h4 : 0 ≤ n) (h5 : n ≤ 64) (h6 : 0 ≤ many) (h7 : many + n ≤ 128) : ∃ moved2, s_X8_inserts_25 FU size list moved many l 0 = some moved2 ∧ (∀ i, 0 ≤ i → i < n → moved2 (many + i) = list (128 * l + i)) ∧ ∀ i, i < many → moved2 i = moved i := by
  refine loopR (fun fu (st : (Int → Int) × Int) => s_X8_inserts_25 fu size list st.1 many l st.2) (fun st => (n - st.2).toNat) (fun st => 0 ≤ st.2 ∧ st.2 ≤ n ∧ (∀ i, 0 ≤ i → i < st.2 → st.1 (many + i) = list (128 * l + i)) ∧ ∀ i, i < many → st.1 i = moved i) (fun m2 => (∀ i, 0 ≤ i → i < n → m2 (many + i) = list (128 * l + i)) ∧ ∀ i, i < many → m2 i = moved i) ?_ FU (moved, 0) ⟨Int.le_refl _, h4, fun i a b => by have : i < 0 := b; omega, fun i _ => rfl⟩ (FU_lt (by show (n - 0).toNat < _; omega))
  intro fu ⟨mv, i⟩ ⟨g1, g2, g3, g4⟩
  have g1 : 0 ≤ i := g1
  have g2 : i ≤ n := g2
  have g3 : ∀ j, 0 ≤ j → j < i → mv (many + j) = list (128 * l + j) := g3
  have g4 : ∀ j, j < many → mv j = moved j := g4
  simp only [s_X8_inserts_25_s]
  by_cases h : i < n
  · right
    refine ⟨(upA mv (many + i) (list (128 * l + i)), i + 1), ⟨by show 0 ≤ i + 1; omega, by show i + 1 ≤ n; omega, fun j a b => ?_, fun j a => ?_⟩, by show (n - (i + 1)).toNat < (n - i).toNat; omega, ?_⟩
    · show upA mv (many + i) (list (128 * l + i)) (many + j) = _
      have b : j < i + 1 := b
      by_cases hj : j = i
      · subst hj; rw [upA_s]
      · rw [upA_n (by omega)]; exact g3 j a (by omega)
    · show upA mv (many + i) (list (128 * l + i)) j = _
      rw [upA_n (by omega)]; exact g4 j a
    · simp (disch := omega) only [cLt_t, cLt_f, cEq_t, cEq_f, cLtL_t, cLtL_f, cEqL_t, cEqL_f, cR_t, cRL_t, cZ_t, cN_t, cCp_t, rdA_t, ob_e, bd1_e, bd2_e, bd3_e, bd4_e, bd5_e, bd6_e, bd7_e, bd8_e, bd9_e, bd10_e, bd12_e]
  · left
    refine ⟨mv, ?_, fun j a b => g3 j a (by omega), g4⟩
    simp (disch := omega) only [cLt_t, cLt_f, cEq_t, cEq_f, cLtL_t, cLtL_f, cEqL_t, cEqL_f, cR_t, cRL_t, cZ_t, cN_t, cCp_t, rdA_t, ob_e, bd1_e, bd2_e, bd3_e, bd4_e, bd5_e, bd6_e, bd7_e, bd8_e, bd9_e, bd10_e, bd12_e]
theorem X8_inserts_93_e {list moved : Int → Int} {many l : Int} (h1 : 0 ≤ l) (h2 : l < 14) (h4 : 0 ≤ many) (h5 : many ≤ 128) : ∃ list2, s_X8_inserts_93 FU list moved many l 0 = some list2 ∧ (∀ i, 0 ≤ i → i < many → list2 (128 * l + i) = moved i) ∧ ∀ i, (i < 128 * l ∨ 128 * l + many ≤ i) → list2 i = list i := by
  refine loopR (fun fu (st : (Int → Int) × Int) => s_X8_inserts_93 fu st.1 moved many l st.2) (fun st => (many - st.2).toNat) (fun st => 0 ≤ st.2 ∧ st.2 ≤ many ∧ (∀ i, 0 ≤ i → i < st.2 → st.1 (128 * l + i) = moved i) ∧ ∀ i, (i < 128 * l ∨ 128 * l + many ≤ i) → st.1 i = list i) (fun m2 => (∀ i, 0 ≤ i → i < many → m2 (128 * l + i) = moved i) ∧ ∀ i, (i < 128 * l ∨ 128 * l + many ≤ i) → m2 i = list i) ?_ FU (list, 0) ⟨Int.le_refl _, h4, fun i a b => by have : i < 0 := b; omega, fun i _ => rfl⟩ (FU_lt (by show (many - 0).toNat < _; omega))
  intro fu ⟨mv, i⟩ ⟨g1, g2, g3, g4⟩
  have g1 : 0 ≤ i := g1
  have g2 : i ≤ many := g2
  have g3 : ∀ j, 0 ≤ j → j < i → mv (128 * l + j) = moved j := g3
  have g4 : ∀ j, (j < 128 * l ∨ 128 * l + many ≤ j) → mv j = list j := g4
  simp only [s_X8_inserts_93_s]
  by_cases h : i < many
  · right
    refine ⟨(upA mv (128 * l + i) (moved i), i + 1), ⟨by show 0 ≤ i + 1; omega, by show i + 1 ≤ many; omega, fun j a b => ?_, fun j a => ?_⟩, by show (many - (i + 1)).toNat < (many - i).toNat; omega, ?_⟩
    · show upA mv (128 * l + i) (moved i) (128 * l + j) = _
      have b : j < i + 1 := b
      by_cases hj : j = i
      · subst hj; rw [upA_s]
      · rw [upA_n (by omega)]; exact g3 j a (by omega)
    · show upA mv (128 * l + i) (moved i) j = _
      rw [upA_n (by omega)]; exact g4 j a
    · simp (disch := omega) only [cLt_t, cLt_f, cEq_t, cEq_f, cLtL_t, cLtL_f, cEqL_t, cEqL_f, cR_t, cRL_t, cZ_t, cN_t, cCp_t, rdA_t, ob_e, bd1_e, bd2_e, bd3_e, bd4_e, bd5_e, bd6_e, bd7_e, bd8_e, bd9_e, bd10_e, bd12_e]
  · left
    refine ⟨mv, ?_, fun j a b => g3 j a (by omega), g4⟩
    simp (disch := omega) only [cLt_t, cLt_f, cEq_t, cEq_f, cLtL_t, cLtL_f, cEqL_t, cEqL_f, cR_t, cRL_t, cZ_t, cN_t, cCp_t, rdA_t, ob_e, bd1_e, bd2_e, bd3_e, bd4_e, bd5_e, bd6_e, bd7_e, bd8_e, bd9_e, bd10_e, bd12_e]
theorem X8_inserts_e {o c k work : Int} {mem size list moved : Int → Int} (ho : o = 0 ∨ o = 7) (h1 : 0 ≤ c) (h2 : c < 127) (hB : BK o c mem size list) : ∃ size2 list2 moved2, s_X8_inserts work size list moved o k = some (work + lowb (c + 1), size2, list2, moved2) ∧ BK o (c + 1) (upA mem c k) size2 list2 ∧ (∀ l, (l < o ∨ o + 7 ≤ l) → size2 l = size l) ∧ ∀ i, (i < 128 * o ∨ 128 * (o + 7) ≤ i) → list2 i = list i := by
  have main := loopR (fun fu (st : (Int → Int) × (Int → Int) × Int × Int) => s_X8_inserts_12 fu st.1 list st.2.1 st.2.2.1 st.2.2.2) (fun st => (o + 7 - st.2.2.2).toNat)
    (fun st => ∃ j, 0 ≤ j ∧ j < 7 ∧ st.2.2.2 = o + j ∧ st.2.2.1 = p2 j ∧ c % p2 j = p2 j - 1 ∧ (∀ i, 0 ≤ i → i < p2 j → st.2.1 i = upA mem c k (c - i)) ∧ ∀ q, st.1 q = if o ≤ q ∧ q < o + j then 0 else size q)
    (fun r => ∃ j, 0 ≤ j ∧ j < 7 ∧ r.2.2.2 = o + j ∧ r.2.2.1 = p2 j ∧ c % p2 j = p2 j - 1 ∧ (∀ i, 0 ≤ i → i < p2 j → r.2.1 i = upA mem c k (c - i)) ∧ (∀ q, r.1 q = if o ≤ q ∧ q < o + j then 0 else size q) ∧ szc c j = 0) ?_ FU (size, upA moved 0 k, 1, o) ⟨0, by omega, by omega, by show o = o + 0; omega, rfl, by show c % 1 = 1 - 1; omega, ?_, ?_⟩ (FU_lt (by show (o + 7 - o).toNat < _; omega))
  · obtain ⟨⟨size1, moved1, many, l⟩, e1, j, j1, j2, j3, j4, j5, j6, j7, j8⟩ := main
    have e1 : s_X8_inserts_12 FU size list (upA moved 0 k) 1 o = some (size1, moved1, many, l) := e1
    have j3 : l = o + j := j3
    have j4 : many = p2 j := j4
    have j6 : ∀ i, 0 ≤ i → i < p2 j → moved1 i = upA mem c k (c - i) := j6
    have j7 : ∀ q, size1 q = if o ≤ q ∧ q < o + j then 0 else size q := j7
    have hp := p2_rg j1 j2
    obtain ⟨list2, e2, k1, k2⟩ := X8_inserts_93_e (list := list) (moved := moved1) (many := many) (l := l) (by omega) (by omega) (by omega) (by omega)
    refine ⟨upA size1 l many, list2, moved1, ?_, ?_, ?_, ?_⟩
    · unfold s_X8_inserts
      have := (sz_step h1 h2 j1 j2 j1 j2 j5 j8).2.2.2
      simp (disch := omega) only [cLt_t, cLt_f, cEq_t, cEq_f, cLtL_t, cLtL_f, cEqL_t, cEqL_f, cR_t, cRL_t, cZ_t, cN_t, cCp_t, rdA_t, ob_e, bd1_e, bd2_e, bd3_e, bd4_e, bd5_e, bd6_e, bd7_e, bd8_e, bd9_e, bd10_e, bd12_e, e1, e2]
      rw [this, j4]
    · intro q q1 q2
      have st := sz_step h1 h2 j1 j2 q1 q2 j5 j8
      have hq := hB q q1 q2
      have hr := sz_rg h1 (show c < 128 by omega) q1 q2
      rcases Int.lt_trichotomy q j with z | z | z
      · have s0 := st.1 z
        refine ⟨?_, fun i a b => by omega⟩
        rw [upA_n (by omega), j7, if_pos (by omega), s0]
      · subst z
        have s0 := st.2.1 rfl
        refine ⟨?_, fun i a b => ?_⟩
        · rw [← j3, upA_s, s0.1, j4]
        · rw [← j3, k1 i a (by omega), j6 i a (by omega)]
          congr 1
          omega
      · have s0 := st.2.2.1 z
        refine ⟨?_, fun i a b => ?_⟩
        · rw [upA_n (by omega), j7, if_neg (by omega), s0.1, hq.1]
        · rw [s0.1] at b
          have hp2 := p2_rg q1 q2
          rw [k2 _ (by omega), hq.2 i a b, s0.1, s0.2, upA_n (by omega)]
    · intro q hq
      rw [upA_n (by omega), j7, if_neg (by omega)]
    · intro i hi
      exact k2 i (by omega)
  · intro fu ⟨sz, mv, many, l⟩ ⟨j, j1, j2, j3, j4, j5, j6, j7⟩
    have j3 : l = o + j := j3
    have j4 : many = p2 j := j4
    have j6 : ∀ i, 0 ≤ i → i < p2 j → mv i = upA mem c k (c - i) := j6
    have j7 : ∀ q, sz q = if o ≤ q ∧ q < o + j then 0 else size q := j7
    have hp := p2_rg j1 j2
    have hs := hB j j1 j2
    have hr := sz_rg h1 (show c < 128 by omega) j1 j2
    have es : sz l = szc c j := by rw [j7, if_neg (by omega), j3]; exact hs.1
    simp only [s_X8_inserts_12_s]
    by_cases h : szc c j = 0
    · left
      refine ⟨(sz, mv, many, l), ?_, j, j1, j2, j3, j4, j5, j6, j7, h⟩
      simp (disch := omega) only [cLt_t, cLt_f, cEq_t, cEq_f, cLtL_t, cLtL_f, cEqL_t, cEqL_f, cR_t, cRL_t, cZ_t, cN_t, cCp_t, rdA_t, ob_e, bd1_e, bd2_e, bd3_e, bd4_e, bd5_e, bd6_e, bd7_e, bd8_e, bd9_e, bd10_e, bd12_e]
    · right
      have hg := sz_go h1 h2 j1 j2 j5 h
      obtain ⟨mv2, e2, k1, k2⟩ := X8_inserts_25_e (size := sz) (list := list) (moved := mv) (many := many) (l := l) (n := szc c j) (by omega) (by omega) es (by omega) (by omega) (by omega) (by omega)
      refine ⟨(upA sz l 0, mv2, many + szc c j, l + 1), ⟨j + 1, by omega, by omega, by show l + 1 = o + (j + 1); omega, by show many + szc c j = p2 (j + 1); omega, hg.2.2.1, ?_, ?_⟩, by show (o + 7 - (l + 1)).toNat < (o + 7 - l).toNat; omega, ?_⟩
      · intro i a b
        show mv2 i = _
        by_cases hi : i < many
        · rw [k2 i hi]; exact j6 i a (by omega)
        · have := k1 (i - many) (by omega) (by omega)
          rw [show many + (i - many) = i by omega] at this
          rw [this, j3, hs.2 (i - many) (by omega) (by omega), upA_n (by omega)]
          congr 1
          omega
      · intro q
        show upA sz l 0 q = _
        by_cases hq : q = l
        · subst hq; rw [upA_s, if_pos (by omega)]
        · rw [upA_n hq, j7]
          by_cases hc : o ≤ q ∧ q < o + j
          · rw [if_pos hc, if_pos (by omega)]
          · rw [if_neg hc, if_neg (by omega)]
      · simp (disch := omega) only [cLt_t, cLt_f, cEq_t, cEq_f, cLtL_t, cLtL_f, cEqL_t, cEqL_f, cR_t, cRL_t, cZ_t, cN_t, cCp_t, rdA_t, ob_e, bd1_e, bd2_e, bd3_e, bd4_e, bd5_e, bd6_e, bd7_e, bd8_e, bd9_e, bd10_e, bd12_e, e2, es]
  · intro i a b
    have b : i < 1 := b
    have : i = 0 := by omega
    subst this
    show upA moved 0 k 0 = _
    rw [upA_s, show c - 0 = c by omega, upA_s]
  · intro q
    show size q = _
    rw [if_neg (by omega)]
