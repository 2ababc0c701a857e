/-! ===== loops that go up, or down; depths; pairs ===== -/
theorem loopJ {σ ρ : Type} (loop : Nat → σ → Int → Option ρ) (out : σ → ρ) (a b : Int) (hab : a ≤ b) (s0 : σ) (I : Int → σ → Prop) (h0 : I a s0)
    (step : ∀ (fu : Nat) (s : σ) (p : Int), a ≤ p → p < b → I p s → ∃ s', I (p + 1) s' ∧ loop (fu + 1) s p = loop fu s' (p + 1))
    (fin : ∀ (fu : Nat) (s : σ), I b s → loop (fu + 1) s b = some (out s)) (fu : Nat) (hf : (b - a).toNat < fu) : ∃ s, I b s ∧ loop fu s0 a = some (out s) := by
  have key : ∀ (n : Nat) (fu : Nat) (s : σ) (p : Int), p + n = b → a ≤ p → I p s → n < fu → ∃ s2, I b s2 ∧ loop fu s p = some (out s2) := by
    intro n
    induction n with
    | zero =>
      intro fu s p hp ha hI hf
      have e : p = b := by omega
      subst e
      obtain ⟨f, rfl⟩ : ∃ f, fu = f + 1 := ⟨fu - 1, by omega⟩
      exact ⟨s, hI, fin f s hI⟩
    | succ n ih =>
      intro fu s p hp ha hI hf
      obtain ⟨f, rfl⟩ : ∃ f, fu = f + 1 := ⟨fu - 1, by omega⟩
      obtain ⟨s', h1, h2⟩ := step f s p ha (by omega) hI
      obtain ⟨s2, h3, h4⟩ := ih f s' (p + 1) (by omega) (by omega) h1 (by omega)
      exact ⟨s2, h3, by rw [h2]; exact h4⟩
  exact key (b - a).toNat fu s0 a (by omega) (Int.le_refl _) h0 hf
/-- down from a, to b, out below b -/
theorem loopD {σ ρ : Type} (loop : Nat → σ → Int → Option ρ) (out : σ → ρ) (a b : Int) (hab : b ≤ a + 1) (s0 : σ) (I : Int → σ → Prop) (h0 : I (a + 1) s0)
    (step : ∀ (fu : Nat) (s : σ) (p : Int), b ≤ p → p ≤ a → I (p + 1) s → ∃ s', I p s' ∧ loop (fu + 1) s p = loop fu s' (p + (-1)))
    (fin : ∀ (fu : Nat) (s : σ), I b s → loop (fu + 1) s (b - 1) = some (out s)) (fu : Nat) (hf : (a + 1 - b).toNat < fu) : ∃ s, I b s ∧ loop fu s0 a = some (out s) := by
  have key : ∀ (n : Nat) (fu : Nat) (s : σ) (p : Int), p + 1 = b + n → p ≤ a → I (p + 1) s → n < fu → ∃ s2, I b s2 ∧ loop fu s p = some (out s2) := by
    intro n
    induction n with
    | zero =>
      intro fu s p hp ha hI hf
      have e : p = b - 1 := by omega
      subst e
      rw [show b - 1 + 1 = b by omega] at hI
      obtain ⟨f, rfl⟩ : ∃ f, fu = f + 1 := ⟨fu - 1, by omega⟩
      exact ⟨s, hI, fin f s hI⟩
    | succ n ih =>
      intro fu s p hp ha hI hf
      obtain ⟨f, rfl⟩ : ∃ f, fu = f + 1 := ⟨fu - 1, by omega⟩
      obtain ⟨s', h1, h2⟩ := step f s p (by omega) ha hI
      obtain ⟨s2, h3, h4⟩ := ih f s' (p + (-1)) (by omega) (by omega) (by rw [show p + (-1) + 1 = p by omega]; exact h1) (by omega)
      exact ⟨s2, h3, by rw [h2]; exact h4⟩
  exact key (a + 1 - b).toNat fu s0 a (by omega) (Int.le_refl _) h0 hf
theorem sm_succ {f : Nat → Int} {n : Nat} : sm f (n + 1) = sm f n + f n := rfl
/-- the next sum, by a place -/
theorem sm_nx {f : Nat → Int} {a p : Int} (h : a ≤ p) : sm f (p + 1 - a).toNat = sm f (p - a).toNat + f (p - a).toNat := by
  rw [show (p + 1 - a).toNat = (p - a).toNat + 1 by omega]; rfl
theorem sm_pick {f : Nat → Int} {i : Nat} : ∀ n : Nat, sm (fun l => if l = i then f l else 0) n = if i < n then f i else 0 := by
  intro n
  induction n with
  | zero => rw [if_neg (by omega)]; rfl
  | succ n ih =>
    rw [sm_succ, ih]
    rcases Nat.lt_trichotomy i n with h | h | h
    · rw [if_pos h, if_neg (by omega), if_pos (by omega)]; omega
    · rw [if_neg (by omega), if_pos (by omega), if_pos (by omega), h]; omega
    · rw [if_neg (by omega), if_neg (by omega), if_neg (by omega)]; omega
theorem sm_mul (c : Int) (f : Nat → Int) (n : Nat) : sm (fun i => c * f i) n = c * sm f n := by
  induction n with
  | zero => show 0 = c * 0; rw [Int.mul_zero]
  | succ n ih => rw [sm_succ, sm_succ, ih, Int.mul_add]
theorem sm_cutR {f : Nat → Int} {l : Nat} : ∀ n : Nat, l ≤ n → sm (fun i => if i + 1 ≤ l then f i else 0) n = sm f l := by
  intro n
  induction n with
  | zero => intro h; rw [show l = 0 by omega]; rfl
  | succ n ih =>
    intro h
    rw [sm_succ]
    by_cases e : l = n + 1
    · rw [if_pos (by omega), e, sm_succ]
      congr 1
      exact sm_c (fun i hi => if_pos (by omega))
    · rw [if_neg (by omega), ih (by omega)]; omega
theorem sm_cutL {f : Nat → Int} {i : Nat} : ∀ n : Nat, i ≤ n → sm (fun l => if i ≤ l then f l else 0) n = sm (fun j => f (i + j)) (n - i) := by
  intro n
  induction n with
  | zero => intro h; rw [show i = 0 by omega]; rfl
  | succ n ih =>
    intro h
    rw [sm_succ]
    by_cases e : i = n + 1
    · rw [if_neg (by omega), show n + 1 - i = 0 by omega, sm_z (fun l hl => if_neg (by omega))]; rfl
    · rw [if_pos (by omega), ih (by omega), show n + 1 - i = n - i + 1 by omega, sm_succ, show i + (n - i) = n by omega]
theorem sm_ext {f : Nat → Int} {m : Nat} : ∀ n : Nat, m ≤ n → (∀ i, m ≤ i → i < n → f i = 0) → sm f n = sm f m := by
  intro n
  induction n with
  | zero => intro h _; rw [show m = 0 by omega]
  | succ n ih =>
    intro h hz
    by_cases e : m = n + 1
    · rw [e]
    · rw [sm_succ, hz n (by omega) (by omega), ih (by omega) (fun i a b => hz i a (by omega))]; omega
theorem sm_shift {h : Int → Int} {n : Nat} : ∀ d : Nat, (∀ a, a < 0 → h a = 0) → (∀ a, (n : Int) - d ≤ a → h a = 0) → sm (fun p => h ((p : Int) - d)) n = sm (fun p => h (p : Int)) n := by
  intro d
  induction d with
  | zero => intro _ _; exact sm_c (fun i hi => by rw [show ((i : Int) - ((0 : Nat) : Int)) = i by omega])
  | succ d ih =>
    intro h1 h2
    rw [← ih h1 (fun a ha => h2 a (by omega))]
    cases n with
    | zero => rfl
    | succ m =>
      rw [sm_front, sm_succ, h1 _ (by omega), h2 ((m : Int) - d) (by omega)]
      rw [show sm (fun i => h (((i + 1 : Nat) : Int) - ((d + 1 : Nat) : Int))) m = sm (fun i => h ((i : Int) - d)) m from sm_c (fun i hi => by rw [show (((i + 1 : Nat) : Int) - ((d + 1 : Nat) : Int)) = (i : Int) - d by omega])]
      omega
theorem ha_end {gv on sl p l : Int} {len bytes live str words : Int → Int} (hT : TBI on gv len bytes live str sl words) (h : ha words p l ≠ 0) : 0 ≤ p ∧ 1 ≤ l ∧ l ≤ 16 ∧ p + l ≤ sl := by
  unfold ha at h
  by_cases c : (0 ≤ p ∧ p < 600 ∧ 1 ≤ l ∧ l ≤ 16) ∧ mt words p l ≠ -1
  · rcases hT p l c.1.1 c.1.2.1 c.1.2.2.1 c.1.2.2.2 with ⟨q, -⟩ | ⟨-, -, q, m⟩
    · exact absurd q c.2
    · have := m.2.1; omega
  · rw [if_neg c] at h; exact absurd rfl h
theorem ha_neg {words : Int → Int} {p l : Int} (h : p < 0) : ha words p l = 0 := by
  unfold ha; exact if_neg (by omega)
theorem cf_z {gv on sl p : Int} {len bytes live str words : Int → Int} (hT : TBI on gv len bytes live str sl words) (h : sl ≤ p) : cf words p = 0 := by
  unfold cf
  refine sm_z (fun i hi => ?_)
  by_cases c : ha words p ((i : Int) + 1) = 0
  · exact c
  · have := ha_end hT c; omega
def Dq (words : Int → Int) (p : Int) (i : Nat) : Int := sm (fun l => if i ≤ l then ha words (p - (i : Int)) ((l : Int) + 1) else 0) 16
/-- how many matches hold place p -/
def Dp (words : Int → Int) (p : Int) : Int := sm (fun i => Dq words p i) 16
def Uq (words : Int → Int) (a : Int) (i : Nat) : Int := sm (fun l => if i + 1 ≤ l then ha words a ((l : Int) + 1) else 0) 16
/-- how many of them began before p -/
def Rp (words : Int → Int) (p : Int) : Int := sm (fun i => Uq words (p - 1 - (i : Int)) i) 16
theorem Dq_rg (words : Int → Int) (p : Int) (i : Nat) : 0 ≤ Dq words p i ∧ Dq words p i ≤ 16 := by
  unfold Dq
  have := sm_rg (f := fun l => if i ≤ l then ha words (p - (i : Int)) ((l : Int) + 1) else 0) (B := 1) (n := 16) (fun l hl => by
    have := ha_rg words (p - (i : Int)) ((l : Int) + 1)
    show 0 ≤ (if i ≤ l then ha words (p - (i : Int)) ((l : Int) + 1) else 0) ∧ (if i ≤ l then ha words (p - (i : Int)) ((l : Int) + 1) else 0) ≤ 1
    split <;> omega)
  omega
theorem Dp_rg (words : Int → Int) (p : Int) : 0 ≤ Dp words p ∧ Dp words p ≤ 256 := by
  unfold Dp
  have := sm_rg (f := fun i => Dq words p i) (B := 16) (n := 16) (fun i hi => Dq_rg words p i)
  omega
theorem Dp_e (words : Int → Int) (p : Int) : Dp words p = cf words p + Rp words p := by
  have e1 : Dp words p = Dq words p 0 + sm (fun i => Dq words p (i + 1)) 15 := sm_front _ 15
  have e2 : Rp words p = sm (fun i => Uq words (p - 1 - (i : Int)) i) 15 + Uq words (p - 1 - ((15 : Nat) : Int)) 15 := sm_succ
  have e3 : Uq words (p - 1 - ((15 : Nat) : Int)) 15 = 0 := sm_z (fun l hl => if_neg (by omega))
  have e4 : Dq words p 0 = cf words p := by
    unfold Dq cf
    refine sm_c (fun l hl => ?_)
    rw [if_pos (Nat.zero_le _), show p - ((0 : Nat) : Int) = p by omega]
  have e5 : sm (fun i => Dq words p (i + 1)) 15 = sm (fun i => Uq words (p - 1 - (i : Int)) i) 15 := sm_c (fun i hi => by
    unfold Dq Uq
    rw [show p - ((i + 1 : Nat) : Int) = p - 1 - (i : Int) by omega])
  omega
theorem Rp_s (words : Int → Int) (p : Int) : Rp words (p + 1) = Dp words p - ctE words p := by
  have e : Dp words p = Rp words (p + 1) + ctE words p := by
    unfold Rp ctE Dp
    rw [← sm_add]
    refine sm_c (fun i hi => ?_)
    rw [show p + 1 - 1 - (i : Int) = p - (i : Int) by omega]
    unfold Dq Uq
    have := sm_pick (f := fun l => ha words (p - (i : Int)) ((l : Int) + 1)) (i := i) 16
    rw [if_pos hi] at this
    rw [← this, ← sm_add]
    refine sm_c (fun l hl => ?_)
    rcases Nat.lt_trichotomy i l with h | h | h
    · rw [if_pos (by omega), if_pos (by omega), if_neg (by omega)]; omega
    · rw [if_pos (by omega), if_neg (by omega), if_pos (by omega)]; omega
    · rw [if_neg (by omega), if_neg (by omega), if_neg (by omega)]; omega
  omega
theorem Uq_neg {words : Int → Int} {a : Int} {i : Nat} (h : a < 0) : Uq words a i = 0 := sm_z (fun l hl => by rw [ha_neg h]; split <;> rfl)
theorem Rp_0 (words : Int → Int) : Rp words 0 = 0 := sm_z (fun i hi => Uq_neg (by omega))
theorem measureDepths_e {sl : Int} {words depths : Int → Int} (hs1 : 0 ≤ sl) (hs2 : sl ≤ 600) : ∃ d2, s_X7_measureDepths sl words depths = some d2 ∧ ∀ q, 0 ≤ q → q < sl → d2 q = Dp words q := by
  obtain ⟨s, h1, h2⟩ := loopJ (fun fu (s : (Int → Int) × Int) p => s_X7_measureDepths_4 fu sl words s.1 s.2 p) (fun s => s.1) 0 sl hs1 (depths, 0) (fun p s => s.2 = Rp words p ∧ ∀ q, 0 ≤ q → q < p → s.1 q = Dp words q) ⟨(Rp_0 words).symm, fun q a b => by omega⟩ (by
    intro fu ⟨d, u⟩ p g1 g2 ⟨g3, g4⟩
    have g3 : u = Rp words p := g3
    have g4 : ∀ q, 0 ≤ q → q < p → d q = Dp words q := g4
    have x1 := X5_countFrom_e (words := words) (p := p) g1 (by omega)
    have x2 := X5_countTo_e (words := words) (p := p) g1 (by omega)
    refine ⟨(upA d p (u + cf words p), u + cf words p - ctE words p), ⟨?_, fun q a b => ?_⟩, ?_⟩
    · show u + cf words p - ctE words p = _
      rw [Rp_s, Dp_e]; omega
    · show upA d p (u + cf words p) q = _
      by_cases e : q = p
      · rw [e, upA_s, Dp_e]; omega
      · rw [upA_n e]; exact g4 q a (by omega)
    · simp only [s_X7_measureDepths_4_s]
      simp (disch := omega) only [cLt_t, cLt_f, cEq_t, cEq_f, cLtL_t, cLtL_f, cEqL_t, cEqL_f, cR_t, cRL_t, cZ_t, cN_t, cCp_t, rdA_t, ob_e, bd1_e, bd2_e, bd3_e, bd4_e, bd5_e, bd6_e, bd7_e, bd8_e, bd9_e, bd10_e, bd12_e, x1, x2]) (by
    intro fu s _
    simp only [s_X7_measureDepths_4_s]
    simp (disch := omega) only [cLt_t, cLt_f, cEq_t, cEq_f, cLtL_t, cLtL_f, cEqL_t, cEqL_f, cR_t, cRL_t, cZ_t, cN_t, cCp_t, rdA_t, ob_e, bd1_e, bd2_e, bd3_e, bd4_e, bd5_e, bd6_e, bd7_e, bd8_e, bd9_e, bd10_e, bd12_e]) FU (FU_lt (by omega))
  have h2 : s_X7_measureDepths_4 FU sl words depths 0 0 = some s.1 := h2
  refine ⟨s.1, ?_, h1.2⟩
  unfold s_X7_measureDepths
  simp (disch := omega) only [cLt_t, cLt_f, cEq_t, cEq_f, cLtL_t, cLtL_f, cEqL_t, cEqL_f, cR_t, cRL_t, cZ_t, cN_t, cCp_t, rdA_t, ob_e, bd1_e, bd2_e, bd3_e, bd4_e, bd5_e, bd6_e, bd7_e, bd8_e, bd9_e, bd10_e, bd12_e, h2]
def Mo (words : Int → Int) (p : Int) : Int := sm (fun l => ha words p ((l : Int) + 1) * sm (fun j => cf words (p + 1 + (j : Int))) l) 16
theorem Mo_e (words : Int → Int) (p : Int) : Mo words p = sm (fun i => cf words (p + 1 + (i : Int)) * Uq words p i) 16 := by
  have e1 : Mo words p = sm (fun l => sm (fun i => if i + 1 ≤ l then cf words (p + 1 + (i : Int)) * ha words p ((l : Int) + 1) else 0) 16) 16 := by
    refine sm_c (fun l hl => ?_)
    rw [← sm_cutR (f := fun j => cf words (p + 1 + (j : Int))) (l := l) 16 (by omega), ← sm_mul]
    refine sm_c (fun i hi => ?_)
    by_cases c : i + 1 ≤ l
    · rw [if_pos c, if_pos c, Int.mul_comm]
    · rw [if_neg c, if_neg c, Int.mul_zero]
  rw [e1, sm_swap (fun l i => if i + 1 ≤ l then cf words (p + 1 + (i : Int)) * ha words p ((l : Int) + 1) else 0) 16 16]
  refine sm_c (fun i hi => ?_)
  unfold Uq
  rw [← sm_mul]
  refine sm_c (fun l hl => ?_)
  by_cases c : i + 1 ≤ l
  · rw [if_pos c, if_pos c]
  · rw [if_neg c, if_neg c, Int.mul_zero]
theorem pairs_e {gv on sl : Int} {len bytes live str words : Int → Int} (hT : TBI on gv len bytes live str sl words) (hs : 0 ≤ sl) : sm (fun p => cf words (p : Int) * Rp words (p : Int)) sl.toNat = sm (fun p => Mo words (p : Int)) sl.toNat := by
  have e1 : sm (fun p => cf words (p : Int) * Rp words (p : Int)) sl.toNat = sm (fun p => sm (fun i => cf words (p : Int) * Uq words ((p : Int) - 1 - (i : Int)) i) 16) sl.toNat := sm_c (fun p hp => by unfold Rp; rw [← sm_mul])
  have e2 : sm (fun p => Mo words (p : Int)) sl.toNat = sm (fun p => sm (fun i => cf words ((p : Int) + 1 + (i : Int)) * Uq words (p : Int) i) 16) sl.toNat := sm_c (fun p hp => Mo_e words (p : Int))
  rw [e1, e2, sm_swap (fun p i => cf words (p : Int) * Uq words ((p : Int) - 1 - (i : Int)) i), sm_swap (fun p i => cf words ((p : Int) + 1 + (i : Int)) * Uq words (p : Int) i)]
  refine sm_c (fun i hi => ?_)
  rw [← sm_shift (h := fun a => cf words (a + 1 + (i : Int)) * Uq words a i) (n := sl.toNat) (i + 1) (fun a ha => by rw [Uq_neg ha, Int.mul_zero]) (fun a ha => by rw [cf_z hT (by omega), Int.zero_mul])]
  refine sm_c (fun p hp => ?_)
  rw [show (p : Int) - ((i + 1 : Nat) : Int) + 1 + (i : Int) = (p : Int) by omega, show (p : Int) - ((i + 1 : Nat) : Int) = (p : Int) - 1 - (i : Int) by omega]
