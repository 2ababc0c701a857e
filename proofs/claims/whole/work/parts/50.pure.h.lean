/-! ===== sums ===== -/
noncomputable def ind (P : Prop) : Int := @ite Int P (Classical.propDecidable P) 1 0
theorem ind_t {P : Prop} (h : P) : ind P = 1 := by unfold ind; exact if_pos h
theorem ind_f {P : Prop} (h : ¬ P) : ind P = 0 := by unfold ind; exact if_neg h
theorem ind_c {P Q : Prop} (h : P ↔ Q) : ind P = ind Q := by rw [propext h]
theorem ind_rg (P : Prop) : 0 ≤ ind P ∧ ind P ≤ 1 := by
  by_cases h : P
  · rw [ind_t h]; omega
  · rw [ind_f h]; omega
def sm (f : Nat → Int) : Nat → Int
  | 0 => 0
  | n + 1 => sm f n + f n
theorem sm_c {f g : Nat → Int} : ∀ {n : Nat}, (∀ i, i < n → f i = g i) → sm f n = sm g n := by
  intro n
  induction n with
  | zero => intro _; rfl
  | succ n ih =>
    intro h
    unfold sm
    rw [ih (fun i hi => h i (by omega)), h n (by omega)]
theorem sm_add (f g : Nat → Int) (n : Nat) : sm (fun i => f i + g i) n = sm f n + sm g n := by
  induction n with
  | zero => rfl
  | succ n ih => unfold sm; rw [ih]; omega
theorem sm_z {f : Nat → Int} {n : Nat} (h : ∀ i, i < n → f i = 0) : sm f n = 0 := by
  induction n with
  | zero => rfl
  | succ n ih => unfold sm; rw [ih (fun i hi => h i (by omega)), h n (by omega)]; rfl
theorem sm_swap (f : Nat → Nat → Int) (n m : Nat) : sm (fun i => sm (f i) m) n = sm (fun j => sm (fun i => f i j) n) m := by
  induction n with
  | zero =>
    exact (sm_z (fun i _ => rfl)).symm
  | succ n ih =>
    show sm (fun i => sm (f i) m) n + sm (f n) m = sm (fun j => sm (fun i => f i j) n + f n j) m
    rw [ih, sm_add]
theorem sm_front (f : Nat → Int) (n : Nat) : sm f (n + 1) = f 0 + sm (fun i => f (i + 1)) n := by
  induction n with
  | zero => show 0 + f 0 = f 0 + 0; omega
  | succ n ih =>
    have e : sm f (n + 2) = sm f (n + 1) + f (n + 1) := rfl
    rw [e, ih]
    show f 0 + sm (fun i => f (i + 1)) n + f (n + 1) = f 0 + (sm (fun i => f (i + 1)) n + f (n + 1))
    omega
theorem sm_rev (f : Nat → Int) (n : Nat) : sm (fun i => f (n - 1 - i)) n = sm f n := by
  induction n with
  | zero => rfl
  | succ n ih =>
    rw [sm_front]
    show f (n + 1 - 1 - 0) + sm (fun i => f (n + 1 - 1 - (i + 1))) n = sm f n + f n
    rw [show n + 1 - 1 - 0 = n by omega, sm_c (g := fun i => f (n - 1 - i)) (fun i hi => by rw [show n + 1 - 1 - (i + 1) = n - 1 - i by omega]), ih]
    omega
theorem sm_one {P : Nat → Prop} {n k : Nat} (hk : k < n) (hp : P k) (hu : ∀ i, i < n → P i → i = k) : sm (fun i => ind (P i)) n = 1 := by
  induction n with
  | zero => omega
  | succ n ih =>
    unfold sm
    by_cases h : k = n
    · subst h
      rw [sm_z (fun i hi => ind_f (fun q => by have := hu i (by omega) q; omega)), ind_t hp]; rfl
    · rw [ih (by omega) (fun i hi => hu i (by omega)), ind_f (fun q => by have := hu n (by omega) q; omega)]; rfl
theorem sm_len {L M : Int} (h0 : 0 ≤ M) (h1 : M ≤ L) : ∀ N : Nat, sm (fun n => ind (M < (n : Int) + 1 ∧ (n : Int) + 1 ≤ L)) N = (if (N : Int) < L then (N : Int) else L) - (if (N : Int) < M then (N : Int) else M) := by
  intro N
  induction N with
  | zero =>
    show (0 : Int) = _
    split <;> split <;> omega
  | succ N ih =>
    unfold sm
    rw [ih]
    by_cases h : M < (N : Int) + 1 ∧ (N : Int) + 1 ≤ L
    · rw [ind_t h]
      split <;> split <;> split <;> split <;> omega
    · rw [ind_f h]
      split <;> split <;> split <;> split <;> omega
/-- the first ones of their kind are as many as the last ones -/
theorem sm_firsts {E : Nat → Nat → Prop} (hs : ∀ i j, E i j → E j i) (ht : ∀ i j k, E i j → E j k → E i k) : ∀ n : Nat, sm (fun i => ind (E i i ∧ ∀ j, j < i → ¬ E i j)) n = sm (fun i => ind (E i i ∧ ∀ j, i < j → j < n → ¬ E i j)) n := by
  intro n
  induction n with
  | zero => rfl
  | succ n ih =>
    show sm (fun i => ind (E i i ∧ ∀ j, j < i → ¬ E i j)) n + ind (E n n ∧ ∀ j, j < n → ¬ E n j) = sm (fun i => ind (E i i ∧ ∀ j, i < j → j < n + 1 → ¬ E i j)) n + ind (E n n ∧ ∀ j, n < j → j < n + 1 → ¬ E n j)
    rw [ih]
    have split1 : sm (fun i => ind (E i i ∧ ∀ j, i < j → j < n → ¬ E i j)) n = sm (fun i => ind (E i i ∧ ∀ j, i < j → j < n + 1 → ¬ E i j)) n + sm (fun i => ind ((E i i ∧ ∀ j, i < j → j < n → ¬ E i j) ∧ E i n)) n := by
      rw [← sm_add]
      refine sm_c (fun i hi => ?_)
      show ind (E i i ∧ ∀ j, i < j → j < n → ¬ E i j) = ind (E i i ∧ ∀ j, i < j → j < n + 1 → ¬ E i j) + ind ((E i i ∧ ∀ j, i < j → j < n → ¬ E i j) ∧ E i n)
      by_cases h1 : E i i ∧ ∀ j, i < j → j < n → ¬ E i j
      · by_cases h2 : E i n
        · have hB : ind (E i i ∧ ∀ j, i < j → j < n + 1 → ¬ E i j) = 0 := ind_f (fun q => q.2 n hi (by omega) h2)
          have hC : ind ((E i i ∧ ∀ j, i < j → j < n → ¬ E i j) ∧ E i n) = 1 := ind_t ⟨h1, h2⟩
          rw [ind_t h1, hB, hC]; rfl
        · have hB : ind (E i i ∧ ∀ j, i < j → j < n + 1 → ¬ E i j) = 1 := ind_t ⟨h1.1, fun j a b => by
            by_cases hj : j = n
            · subst hj; exact h2
            · exact h1.2 j a (by omega)⟩
          have hC : ind ((E i i ∧ ∀ j, i < j → j < n → ¬ E i j) ∧ E i n) = 0 := ind_f (fun q => h2 q.2)
          rw [ind_t h1, hB, hC]; rfl
      · have hB : ind (E i i ∧ ∀ j, i < j → j < n + 1 → ¬ E i j) = 0 := ind_f (fun q => h1 ⟨q.1, fun j a b => q.2 j a (by omega)⟩)
        have hC : ind ((E i i ∧ ∀ j, i < j → j < n → ¬ E i j) ∧ E i n) = 0 := ind_f (fun q => h1 q.1)
        rw [ind_f h1, hB, hC]; rfl
    rw [split1]
    have last1 : ind (E n n ∧ ∀ j, n < j → j < n + 1 → ¬ E n j) = ind (E n n) := ind_c ⟨fun q => q.1, fun q => ⟨q, fun j a b => by omega⟩⟩
    rw [last1]
    by_cases hex : ∃ j, j < n ∧ E n j
    · -- the last one of that kind
      have hmax : ∃ k, k < n ∧ E n k ∧ ∀ i, i < n → E n i → i ≤ k := by
        obtain ⟨j, hj1, hj2⟩ := hex
        have : ∀ d : Nat, ∀ k, k < n → n - k ≤ d → E n k → ∃ k', k' < n ∧ E n k' ∧ ∀ i, i < n → E n i → i ≤ k' := by
          intro d
          induction d with
          | zero => intro k a b; omega
          | succ d ihd =>
            intro k a b e
            by_cases hh : ∃ i, i < n ∧ E n i ∧ k < i
            · obtain ⟨i, i1, i2, i3⟩ := hh
              exact ihd i i1 (by omega) i2
            · exact ⟨k, a, e, fun i i1 i2 => by
                rcases Nat.lt_or_ge k i with q | q
                · exact absurd ⟨i, i1, i2, q⟩ hh
                · exact q⟩
        exact this n j hj1 (by omega) hj2
      obtain ⟨k, k1, k2, k3⟩ := hmax
      have enn : E n n := ht n k n k2 (hs n k k2)
      have c1 : sm (fun i => ind ((E i i ∧ ∀ j, i < j → j < n → ¬ E i j) ∧ E i n)) n = 1 := sm_one (P := fun i => (E i i ∧ ∀ j, i < j → j < n → ¬ E i j) ∧ E i n) (k := k) k1 ⟨⟨ht k n k (hs n k k2) k2, fun j a b e => by
          have := k3 j b (ht n k j k2 e)
          omega⟩, hs n k k2⟩ (fun i hi q => by
          have h4 := k3 i hi (hs i n q.2)
          rcases Nat.lt_or_ge i k with z | z
          · exact absurd (ht i n k q.2 k2) (q.1.2 k z k1)
          · omega)
      have c2 : ind (E n n ∧ ∀ j, j < n → ¬ E n j) = 0 := ind_f (fun q => by obtain ⟨j, a, b⟩ := hex; exact q.2 j a b)
      rw [c1, c2, ind_t enn]
      omega
    · have c1 : sm (fun i => ind ((E i i ∧ ∀ j, i < j → j < n → ¬ E i j) ∧ E i n)) n = 0 := sm_z (fun i hi => ind_f (fun q => hex ⟨i, hi, hs i n q.2⟩))
      have c2 : ind (E n n ∧ ∀ j, j < n → ¬ E n j) = ind (E n n) := ind_c ⟨fun q => q.1, fun q => ⟨q, fun j a b => hex ⟨j, a, b⟩⟩⟩
      rw [c1, c2]
      omega
/-! ===== states of a bucket ===== -/
def EQn (on : Int) (len bytes : Int → Int) (n a b : Int) : Prop := n ≤ len a ∧ n ≤ len b ∧ RE on bytes (16 * a) bytes (16 * b) n
theorem EQn.symm {on n a b : Int} {len bytes : Int → Int} (h : EQn on len bytes n a b) : EQn on len bytes n b a := ⟨h.2.1, h.1, h.2.2.symm⟩
theorem EQn.trans {on n a b c : Int} {len bytes : Int → Int} (h : EQn on len bytes n a b) (g : EQn on len bytes n b c) : EQn on len bytes n a c := ⟨h.1, g.2.1, h.2.2.trans g.2.2⟩
theorem EQn.le {on n m a b : Int} {len bytes : Int → Int} (h : EQn on len bytes n a b) (hm : m ≤ n) : EQn on len bytes m a b := ⟨by have := h.1; omega, by have := h.2.1; omega, h.2.2.le hm⟩
/-- M is how far keyword k's first bytes are also those of one of the keywords a(0), .., a(i-1) -/
def CH (on : Int) (len bytes : Int → Int) (k : Int) (a : Nat → Int) (i : Nat) (M : Int) : Prop := 0 ≤ M ∧ M ≤ len k ∧ ∀ n, 1 ≤ n → n ≤ len k → (n ≤ M ↔ ∃ j, j < i ∧ EQn on len bytes n k (a j))
/-- the sum that both sides build -/
noncomputable def SC (on : Int) (len bytes : Int → Int) (a : Nat → Int) (s : Nat) : Int := sm (fun i => sm (fun n => ind ((n : Int) + 1 ≤ len (a i) ∧ ¬ ∃ j, j < i ∧ EQn on len bytes ((n : Int) + 1) (a i) (a j))) 16) s
theorem CH.term {on k M : Int} {len bytes : Int → Int} {a : Nat → Int} {i : Nat} (h : CH on len bytes k a i M) (hl : len k ≤ 16) : len k - M = sm (fun n => ind ((n : Int) + 1 ≤ len k ∧ ¬ ∃ j, j < i ∧ EQn on len bytes ((n : Int) + 1) k (a j))) 16 := by
  rw [sm_c (g := fun n => ind (M < (n : Int) + 1 ∧ (n : Int) + 1 ≤ len k)) (fun n hn => ind_c ⟨fun q => ⟨by
      have h1 := h.2.2 ((n : Int) + 1) (by omega) q.1
      rcases Int.lt_or_le M ((n : Int) + 1) with z | z
      · exact z
      · exact absurd (h1.mp z) q.2, q.1⟩, fun q => ⟨q.2, fun z => by
      have h1 := (h.2.2 ((n : Int) + 1) (by omega) q.2).mpr z
      omega⟩⟩), sm_len h.1 h.2.1 16]
  have := h.1
  have := h.2.1
  split <;> split <;> omega
theorem SC_succ {on k : Int} {len bytes : Int → Int} {a : Nat → Int} {i : Nat} (hk : a i = k) : SC on len bytes a (i + 1) = SC on len bytes a i + sm (fun n => ind ((n : Int) + 1 ≤ len k ∧ ¬ ∃ j, j < i ∧ EQn on len bytes ((n : Int) + 1) k (a j))) 16 := by
  subst hk; rfl
theorem SC_rev {on : Int} {len bytes : Int → Int} {a : Nat → Int} {s : Nat} : SC on len bytes (fun i => a (s - 1 - i)) s = SC on len bytes a s := by
  have sw : ∀ b : Nat → Int, SC on len bytes b s = sm (fun n => sm (fun i => ind ((n : Int) + 1 ≤ len (b i) ∧ ¬ ∃ j, j < i ∧ EQn on len bytes ((n : Int) + 1) (b i) (b j))) s) 16 := fun b => sm_swap _ _ _
  rw [sw, sw]
  refine sm_c (fun n hn => ?_)
  have e1 : sm (fun i => ind ((n : Int) + 1 ≤ len (a i) ∧ ¬ ∃ j, j < i ∧ EQn on len bytes ((n : Int) + 1) (a i) (a j))) s = sm (fun i => ind (EQn on len bytes ((n : Int) + 1) (a i) (a i) ∧ ∀ j, j < i → ¬ EQn on len bytes ((n : Int) + 1) (a i) (a j))) s :=
    sm_c (fun i hi => ind_c ⟨fun q => ⟨⟨q.1, q.1, fun _ _ _ => rfl⟩, fun j x y => q.2 ⟨j, x, y⟩⟩, fun q => ⟨q.1.1, fun ⟨j, x, y⟩ => q.2 j x y⟩⟩)
  rw [e1, sm_firsts (E := fun i j => EQn on len bytes ((n : Int) + 1) (a i) (a j)) (fun i j h => h.symm) (fun i j k h g => h.trans g) s, ← sm_rev (fun i => ind (EQn on len bytes ((n : Int) + 1) (a i) (a i) ∧ ∀ j, i < j → j < s → ¬ EQn on len bytes ((n : Int) + 1) (a i) (a j))) s]
  refine sm_c (fun i hi => ind_c ⟨fun q => ⟨⟨q.1, q.1, fun _ _ _ => rfl⟩, fun j x y z => q.2 ⟨s - 1 - j, by omega, ?_⟩⟩, fun q => ⟨q.1.1, fun ⟨j, x, y⟩ => q.2 (s - 1 - j) (by omega) (by omega) y⟩⟩)
  rw [show s - 1 - (s - 1 - j) = j by omega]
  exact z
theorem X3_commonPrefix_e {gv on x y : Int} {len bytes wt live : Int → Int} (hK : KW gv len bytes wt live) (o1 : 0 ≤ on) (o2 : on ≤ 1) (hx1 : 0 ≤ x) (hx2 : x < gv) (hy1 : 0 ≤ y) (hy2 : y < gv) : ∃ r, s_X3_commonPrefix gv on bytes len x y = some r ∧ 0 ≤ r ∧ r ≤ len x ∧ ∀ n, 1 ≤ n → n ≤ len x → (n ≤ r ↔ EQn on len bytes n x y) := by
  have hg := hK.2.1
  have hx := hK.2.2 x hx1 hx2
  have hy := hK.2.2 y hy1 hy2
  unfold s_X3_commonPrefix
  have em : iMin (len x) (len y) ≤ len x ∧ iMin (len x) (len y) ≤ len y ∧ (iMin (len x) (len y) = len x ∨ iMin (len x) (len y) = len y) := by unfold iMin; split <;> omega
  obtain ⟨r, e1, e2⟩ := X2_commonPrefix_e (m0 := 1920) (m2 := 1920) (on := on) (a := 16 * x) (b := 16 * y) (n := iMin (len x) (len y)) (f := bytes) (g := bytes) o1 o2 (by omega) (by omega) (by omega) (by omega) (by omega) (by omega) (by omega) (by omega) (hK.rb hx1 hx2 (by omega)) (hK.rb hy1 hy2 (by omega))
  have f1 := e2.1
  have f2 := e2.2.1
  refine ⟨r, ?_, f1, by omega, fun n a b => ?_⟩
  · simp (disch := omega) only [cLt_t, cLt_f, cEq_t, cEq_f, cLtL_t, cLtL_f, cEqL_t, cEqL_f, cR_t, cRL_t, cZ_t, cN_t, cCp_t, rdA_t, ob_e, bd1_e, bd2_e, bd3_e, bd4_e, bd5_e, bd6_e, bd7_e, bd8_e, bd9_e, bd10_e, bd12_e, X3_lengthOf_e, X3_firstByteOf_e, e1]
  · constructor
    · intro q
      exact ⟨b, by omega, (e2.ge (by omega) (by omega)).mp q⟩
    · intro q
      exact (e2.ge (by omega) (by have := q.2.1; omega)).mpr q.2.2
theorem CH.step {on k M v : Int} {len bytes : Int → Int} {a : Nat → Int} {i : Nat} (h : CH on len bytes k a i M) {M2 : Int} (h1 : 0 ≤ M2) (h2 : M2 ≤ len k) (h3 : ∀ n, 1 ≤ n → n ≤ len k → (n ≤ M2 ↔ n ≤ M ∨ EQn on len bytes n k (a i))) : CH on len bytes k a (i + 1) M2 := by
  refine ⟨h1, h2, fun n p q => ?_⟩
  rw [h3 n p q, h.2.2 n p q]
  constructor
  · intro z
    rcases z with ⟨j, x, y⟩ | z
    · exact ⟨j, by omega, y⟩
    · exact ⟨i, by omega, z⟩
  · intro ⟨j, x, y⟩
    by_cases hj : j = i
    · subst hj; exact Or.inr y
    · exact Or.inl ⟨j, by omega, y⟩
theorem X7_newPrefixes_e {gv on c f p : Int} {len bytes wt live mem : Int → Int} (hK : KW gv len bytes wt live) (o1 : 0 ≤ on) (o2 : on ≤ 1) (hM : MB gv c mem) (hf : 0 ≤ f) (hfp : f ≤ p) (hp : p < c) (hc : c < 128) : ∃ r M, s_X7_newPrefixes on gv bytes len c mem f p = some r ∧ r = len (mem p) - M ∧ CH on len bytes (mem p) (fun i => mem (f + (i : Int))) (p - f).toNat M := by
  have hg := hK.2.1
  have hm := hM p (by omega) hp
  have hk := hK.2.2 (mem p) hm.1 hm.2
  unfold s_X7_newPrefixes
  have := loopR (fun fu (st : Int × Int) => s_X7_newPrefixes_15 fu on gv bytes len c mem p (mem p) st.1 st.2) (fun st => (p - st.2).toNat) (fun st => f ≤ st.2 ∧ st.2 ≤ p ∧ CH on len bytes (mem p) (fun i => mem (f + (i : Int))) (st.2 - f).toNat st.1) (fun M => CH on len bytes (mem p) (fun i => mem (f + (i : Int))) (p - f).toNat M) ?_ FU (0, f) ⟨Int.le_refl _, hfp, Int.le_refl _, by show 0 ≤ len (mem p); omega, fun n a b => ⟨fun q => by have : n ≤ 0 := q; omega, fun ⟨j, x, y⟩ => by have : j < (f - f).toNat := x; omega⟩⟩ (FU_lt (by show (p - f).toNat < _; omega))
  · obtain ⟨M, e1, e2⟩ := this
    have e1 : s_X7_newPrefixes_15 FU on gv bytes len c mem p (mem p) 0 f = some M := e1
    exact ⟨len (mem p) - M, M, by simp (disch := omega) only [cLt_t, cLt_f, cEq_t, cEq_f, cLtL_t, cLtL_f, cEqL_t, cEqL_f, cR_t, cRL_t, cZ_t, cN_t, cCp_t, rdA_t, ob_e, bd1_e, bd2_e, bd3_e, bd4_e, bd5_e, bd6_e, bd7_e, bd8_e, bd9_e, bd10_e, bd12_e, X0_memberAt_e, e1, X3_lengthOf_e], rfl, e2⟩
  · intro fu ⟨M, i⟩ ⟨g1, g2, g3⟩
    have g1 : f ≤ i := g1
    have g2 : i ≤ p := g2
    have g3 : CH on len bytes (mem p) (fun i => mem (f + (i : Int))) (i - f).toNat M := g3
    have m1 := g3.1
    have m2 := g3.2.1
    simp only [s_X7_newPrefixes_15_s]
    by_cases h : i < p
    · right
      have hi := hM i (by omega) (by omega)
      obtain ⟨v, v1, v2, v3, v4⟩ := X3_commonPrefix_e (x := mem p) (y := mem i) hK o1 o2 hm.1 hm.2 hi.1 hi.2
      have em : iMax M v = M ∧ v ≤ M ∨ iMax M v = v ∧ M < v := by unfold iMax; split <;> omega
      refine ⟨(iMax M v, i + 1), ⟨by show f ≤ i + 1; omega, by show i + 1 ≤ p; omega, ?_⟩, by show (p - (i + 1)).toNat < (p - i).toNat; omega, ?_⟩
      · show CH on len bytes (mem p) (fun i => mem (f + (i : Int))) (i + 1 - f).toNat (iMax M v)
        rw [show (i + 1 - f).toNat = (i - f).toNat + 1 by omega]
        refine g3.step (v := v) (by omega) (by omega) (fun n a b => ?_)
        have ei : f + (((i - f).toNat : Nat) : Int) = i := by omega
        show n ≤ iMax M v ↔ n ≤ M ∨ EQn on len bytes n (mem p) (mem (f + (((i - f).toNat : Nat) : Int)))
        rw [ei, ← v4 n a b]
        omega
      · simp (disch := omega) only [cLt_t, cLt_f, cEq_t, cEq_f, cLtL_t, cLtL_f, cEqL_t, cEqL_f, cR_t, cRL_t, cZ_t, cN_t, cCp_t, rdA_t, ob_e, bd1_e, bd2_e, bd3_e, bd4_e, bd5_e, bd6_e, bd7_e, bd8_e, bd9_e, bd10_e, bd12_e, X0_memberAt_e, v1]
    · left
      refine ⟨M, ?_, ?_⟩
      · simp (disch := omega) only [cLt_t, cLt_f, cEq_t, cEq_f, cLtL_t, cLtL_f, cEqL_t, cEqL_f, cR_t, cRL_t, cZ_t, cN_t, cCp_t, rdA_t, ob_e, bd1_e, bd2_e, bd3_e, bd4_e, bd5_e, bd6_e, bd7_e, bd8_e, bd9_e, bd10_e, bd12_e]
      · rw [show (p - f).toNat = (i - f).toNat by omega]; exact g3
theorem X7_stateCount_41_e {gv on c f s : Int} {len bytes wt live mem : Int → Int} (hK : KW gv len bytes wt live) (o1 : 0 ≤ on) (o2 : on ≤ 1) (hM : MB gv c mem) (hf : 0 ≤ f) (hs : 0 ≤ s) (hfs : f + s ≤ c) (hc : c < 128) : s_X7_stateCount_41 FU on gv bytes len c mem s 1 f f = some (1 + SC on len bytes (fun i => mem (f + (i : Int))) s.toNat) := by
  have := loopR (fun fu (st : Int × Int) => s_X7_stateCount_41 fu on gv bytes len c mem s st.1 f st.2) (fun st => (f + s - st.2).toNat) (fun st => f ≤ st.2 ∧ st.2 ≤ f + s ∧ st.1 = 1 + SC on len bytes (fun i => mem (f + (i : Int))) (st.2 - f).toNat) (fun r => r = 1 + SC on len bytes (fun i => mem (f + (i : Int))) s.toNat) ?_ FU (1, f) ⟨Int.le_refl _, by show f ≤ f + s; omega, by show (1 : Int) = 1 + SC on len bytes _ (f - f).toNat; rw [show (f - f).toNat = 0 by omega]; rfl⟩ (FU_lt (by show (f + s - f).toNat < _; omega))
  · obtain ⟨r, e1, e2⟩ := this
    rw [← e2]; exact e1
  · intro fu ⟨t, i⟩ ⟨g1, g2, g3⟩
    have g1 : f ≤ i := g1
    have g2 : i ≤ f + s := g2
    have g3 : t = 1 + SC on len bytes (fun i => mem (f + (i : Int))) (i - f).toNat := g3
    simp only [s_X7_stateCount_41_s]
    by_cases h : i < f + s
    · right
      obtain ⟨r, M, e1, e2, e3⟩ := X7_newPrefixes_e (f := f) (p := i) hK o1 o2 hM hf g1 (by omega) hc
      have hm := hM i (by omega) (by omega)
      have hk := hK.2.2 (mem i) hm.1 hm.2
      have e4 := e3.term (by omega)
      refine ⟨(t + r, i + 1), ⟨by show f ≤ i + 1; omega, by show i + 1 ≤ f + s; omega, ?_⟩, by show (f + s - (i + 1)).toNat < (f + s - i).toNat; omega, ?_⟩
      · show t + r = 1 + SC on len bytes (fun i => mem (f + (i : Int))) (i + 1 - f).toNat
        rw [show (i + 1 - f).toNat = (i - f).toNat + 1 by omega]
        have ei : f + (((i - f).toNat : Nat) : Int) = i := by omega
        have e5 : SC on len bytes (fun i => mem (f + (i : Int))) ((i - f).toNat + 1) = SC on len bytes (fun i => mem (f + (i : Int))) (i - f).toNat + (len (mem i) - M) := by
          rw [e4]
          exact SC_succ (by show mem (f + (((i - f).toNat : Nat) : Int)) = mem i; rw [ei])
        rw [e5, g3, e2]
        omega
      · simp (disch := omega) only [cLt_t, cLt_f, cEq_t, cEq_f, cLtL_t, cLtL_f, cEqL_t, cEqL_f, cR_t, cRL_t, cZ_t, cN_t, cCp_t, rdA_t, ob_e, bd1_e, bd2_e, bd3_e, bd4_e, bd5_e, bd6_e, bd7_e, bd8_e, bd9_e, bd10_e, bd12_e, e1]
    · left
      refine ⟨t, ?_, ?_⟩
      · simp (disch := omega) only [cLt_t, cLt_f, cEq_t, cEq_f, cLtL_t, cLtL_f, cEqL_t, cEqL_f, cR_t, cRL_t, cZ_t, cN_t, cCp_t, rdA_t, ob_e, bd1_e, bd2_e, bd3_e, bd4_e, bd5_e, bd6_e, bd7_e, bd8_e, bd9_e, bd10_e, bd12_e]
      · rw [g3, show (i - f).toNat = s.toNat by omega]
theorem X8_areLike_e {gv on x y n : Int} {len bytes wt live : Int → Int} (hK : KW gv len bytes wt live) (o1 : 0 ≤ on) (o2 : on ≤ 1) (hx1 : 0 ≤ x) (hx2 : x < gv) (hy1 : 0 ≤ y) (hy2 : y < gv) (hn : 0 ≤ n) (hn2 : n ≤ 1000) : ∃ r, s_X8_areLike on len bytes x y n = some r ∧ BB r (EQn on len bytes n x y) := by
  have hg := hK.2.1
  have hx := hK.2.2 x hx1 hx2
  have hy := hK.2.2 y hy1 hy2
  unfold s_X8_areLike
  by_cases c1 : len x < n
  · exact ⟨0, by simp (disch := omega) only [cLt_t, cLt_f, cEq_t, cEq_f, cLtL_t, cLtL_f, cEqL_t, cEqL_f, cR_t, cRL_t, cZ_t, cN_t, cCp_t, rdA_t, ob_e, bd1_e, bd2_e, bd3_e, bd4_e, bd5_e, bd6_e, bd7_e, bd8_e, bd9_e, bd10_e, bd12_e], Or.inr ⟨rfl, fun q => by have := q.1; omega⟩⟩
  · by_cases c2 : len y < n
    · exact ⟨0, by simp (disch := omega) only [cLt_t, cLt_f, cEq_t, cEq_f, cLtL_t, cLtL_f, cEqL_t, cEqL_f, cR_t, cRL_t, cZ_t, cN_t, cCp_t, rdA_t, ob_e, bd1_e, bd2_e, bd3_e, bd4_e, bd5_e, bd6_e, bd7_e, bd8_e, bd9_e, bd10_e, bd12_e], Or.inr ⟨rfl, fun q => by have := q.2.1; omega⟩⟩
    · have := loopR (fun fu i => s_X8_areLike_25 fu on bytes x y n i) (fun i => (n - i).toNat) (fun i => 0 ≤ i ∧ i ≤ n ∧ RE on bytes (16 * x) bytes (16 * y) i) (fun r => BB r (EQn on len bytes n x y)) ?_ FU 0 ⟨by omega, by omega, fun j a b => by omega⟩ (FU_lt (by omega))
      · obtain ⟨r, e1, e2⟩ := this
        have e1 : s_X8_areLike_25 FU on bytes x y n 0 = some r := e1
        exact ⟨r, by simp (disch := omega) only [cLt_t, cLt_f, cEq_t, cEq_f, cLtL_t, cLtL_f, cEqL_t, cEqL_f, cR_t, cRL_t, cZ_t, cN_t, cCp_t, rdA_t, ob_e, bd1_e, bd2_e, bd3_e, bd4_e, bd5_e, bd6_e, bd7_e, bd8_e, bd9_e, bd10_e, bd12_e, e1], e2⟩
      · intro fu i ⟨g1, g2, g3⟩
        simp only [s_X8_areLike_25_s]
        by_cases h : i < n
        · have b1 := hx.2.2.2.2.2 i (by omega) (by omega)
          have b2 := hy.2.2.2.2.2 i (by omega) (by omega)
          by_cases he : fo on (bytes (16 * x + i)) = fo on (bytes (16 * y + i))
          · right
            refine ⟨i + 1, ⟨by omega, by omega, fun j a b => ?_⟩, by omega, ?_⟩
            · by_cases hj : j = i
              · subst hj; exact he
              · exact g3 j a (by omega)
            · simp (disch := omega) only [cLt_t, cLt_f, cEq_t, cEq_f, cLtL_t, cLtL_f, cEqL_t, cEqL_f, cR_t, cRL_t, cZ_t, cN_t, cCp_t, rdA_t, ob_e, bd1_e, bd2_e, bd3_e, bd4_e, bd5_e, bd6_e, bd7_e, bd8_e, bd9_e, bd10_e, bd12_e, X8_byteOf_e, X8_like_e, if_pos he]
          · left
            refine ⟨0, ?_, Or.inr ⟨rfl, fun q => he (q.2.2 i g1 h)⟩⟩
            simp (disch := omega) only [cLt_t, cLt_f, cEq_t, cEq_f, cLtL_t, cLtL_f, cEqL_t, cEqL_f, cR_t, cRL_t, cZ_t, cN_t, cCp_t, rdA_t, ob_e, bd1_e, bd2_e, bd3_e, bd4_e, bd5_e, bd6_e, bd7_e, bd8_e, bd9_e, bd10_e, bd12_e, X8_byteOf_e, X8_like_e, if_neg he]
        · left
          exact ⟨1, by simp (disch := omega) only [cLt_t, cLt_f, cEq_t, cEq_f, cLtL_t, cLtL_f, cEqL_t, cEqL_f, cR_t, cRL_t, cZ_t, cN_t, cCp_t, rdA_t, ob_e, bd1_e, bd2_e, bd3_e, bd4_e, bd5_e, bd6_e, bd7_e, bd8_e, bd9_e, bd10_e, bd12_e], Or.inl ⟨rfl, by omega, by omega, g3.le (by omega)⟩⟩
theorem op_stateCount {gv on c l th : Int} {len bytes wt live mem size list : Int → Int} (hK : KW gv len bytes wt live) (o1 : 0 ≤ on) (o2 : on ≤ 1) (hB : BK 0 c mem size list) (hM : MB gv c mem) (hc0 : 0 ≤ c) (hc : c < 128) (h3 : -2147483648 ≤ l) (h4 : l < 2147483648) : ∃ r, s_X7_stateCount on gv bytes len c mem l = some r ∧ s_X8_stateCount th on len bytes size list l = some (r, 0) := by
  have hg := hK.2.1
  unfold s_X7_stateCount s_X8_stateCount
  by_cases h : 0 ≤ l ∧ l < 7
  · have hr := sz_rg hc0 hc h.1 h.2
    have hp := p2_rg h.1 h.2
    have hb := hB l h.1 h.2
    rw [Int.zero_add] at hb
    by_cases hz : szc c l = 0
    · exact ⟨-1, by simp (disch := omega) only [cLt_t, cLt_f, cEq_t, cEq_f, cLtL_t, cLtL_f, cEqL_t, cEqL_f, cR_t, cRL_t, cZ_t, cN_t, cCp_t, rdA_t, ob_e, bd1_e, bd2_e, bd3_e, bd4_e, bd5_e, bd6_e, bd7_e, bd8_e, bd9_e, bd10_e, bd12_e, X7_isLevel_e, if_pos h, X0_sizeAt_e], by simp (disch := omega) only [cLt_t, cLt_f, cEq_t, cEq_f, cLtL_t, cLtL_f, cEqL_t, cEqL_f, cR_t, cRL_t, cZ_t, cN_t, cCp_t, rdA_t, ob_e, bd1_e, bd2_e, bd3_e, bd4_e, bd5_e, bd6_e, bd7_e, bd8_e, bd9_e, bd10_e, bd12_e, X8_isLevel_e, if_pos h, hb.1]⟩
    · have e1 := X7_stateCount_41_e (f := fsc c l) (s := szc c l) hK o1 o2 hM (by omega) (by omega) (by omega) hc
      have e2 : s_X8_stateCount_30 FU on len bytes size list l 1 0 = some (1 + SC on len bytes (fun i => list (128 * l + (i : Int))) (szc c l).toNat) := by
        have := loopR (fun fu (st : Int × Int) => s_X8_stateCount_30 fu on len bytes size list l st.1 st.2) (fun st => (szc c l - st.2).toNat) (fun st => 0 ≤ st.2 ∧ st.2 ≤ szc c l ∧ st.1 = 1 + SC on len bytes (fun i => list (128 * l + (i : Int))) st.2.toNat) (fun r => r = 1 + SC on len bytes (fun i => list (128 * l + (i : Int))) (szc c l).toNat) ?_ FU (1, 0) ⟨Int.le_refl _, by show 0 ≤ szc c l; omega, rfl⟩ (FU_lt (by show (szc c l - 0).toNat < _; omega))
        · obtain ⟨r, q1, q2⟩ := this
          rw [← q2]; exact q1
        · intro fu ⟨t, i⟩ ⟨g1, g2, g3⟩
          have g1 : 0 ≤ i := g1
          have g2 : i ≤ szc c l := g2
          have g3 : t = 1 + SC on len bytes (fun i => list (128 * l + (i : Int))) i.toNat := g3
          simp only [s_X8_stateCount_30_s]
          by_cases hi : i < szc c l
          · right
            have nb : ∀ j, 0 ≤ j → j < szc c l → 0 ≤ list (128 * l + j) ∧ list (128 * l + j) < gv := fun j a b => by
              have := hM (fsc c l + szc c l - 1 - j) (by omega) (by omega)
              rw [← hb.2 j a b] at this
              exact this
            have hm := nb i g1 hi
            have hk := hK.2.2 (list (128 * l + i)) hm.1 hm.2
            have mid := loopR (fun fu (st : Int × Int) => s_X8_stateCount_60 fu on len bytes list l t i (list (128 * l + i)) st.1 st.2) (fun st => (i - st.2).toNat) (fun st => 0 ≤ st.2 ∧ st.2 ≤ i ∧ CH on len bytes (list (128 * l + i)) (fun i => list (128 * l + (i : Int))) st.2.toNat st.1) (fun M => CH on len bytes (list (128 * l + i)) (fun i => list (128 * l + (i : Int))) i.toNat M) ?_ FU (0, 0) ⟨Int.le_refl _, g1, Int.le_refl _, by show 0 ≤ len (list (128 * l + i)); omega, fun n a b => ⟨fun q => by have : n ≤ 0 := q; omega, fun ⟨j, x, y⟩ => by have : j < 0 := x; omega⟩⟩ (FU_lt (by show (i - 0).toNat < _; omega))
            · obtain ⟨M, q1, q2⟩ := mid
              have q1 : s_X8_stateCount_60 FU on len bytes list l t i (list (128 * l + i)) 0 0 = some M := q1
              have e4 := q2.term (by omega)
              refine ⟨(t + (len (list (128 * l + i)) - M), i + 1), ⟨by show 0 ≤ i + 1; omega, by show i + 1 ≤ szc c l; omega, ?_⟩, by show (szc c l - (i + 1)).toNat < (szc c l - i).toNat; omega, ?_⟩
              · show t + (len (list (128 * l + i)) - M) = 1 + SC on len bytes (fun i => list (128 * l + (i : Int))) (i + 1).toNat
                rw [show (i + 1).toNat = i.toNat + 1 by omega]
                have ei : ((i.toNat : Nat) : Int) = i := by omega
                have e5 : SC on len bytes (fun i => list (128 * l + (i : Int))) (i.toNat + 1) = SC on len bytes (fun i => list (128 * l + (i : Int))) i.toNat + (len (list (128 * l + i)) - M) := by
                  rw [e4]
                  exact SC_succ (by show list (128 * l + ((i.toNat : Nat) : Int)) = list (128 * l + i); rw [ei])
                rw [e5, g3]
                omega
              · simp (disch := omega) only [cLt_t, cLt_f, cEq_t, cEq_f, cLtL_t, cLtL_f, cEqL_t, cEqL_f, cR_t, cRL_t, cZ_t, cN_t, cCp_t, rdA_t, ob_e, bd1_e, bd2_e, bd3_e, bd4_e, bd5_e, bd6_e, bd7_e, bd8_e, bd9_e, bd10_e, bd12_e, hb.1, q1]
            · intro fu ⟨M, j⟩ ⟨f1, f2, f3⟩
              have f1 : 0 ≤ j := f1
              have f2 : j ≤ i := f2
              have f3 : CH on len bytes (list (128 * l + i)) (fun i => list (128 * l + (i : Int))) j.toNat M := f3
              have m1 := f3.1
              have m2 := f3.2.1
              simp only [s_X8_stateCount_60_s]
              by_cases hj : j < i
              · right
                have hmj := nb j f1 (by omega)
                have inner := loopR (fun fu o => s_X8_stateCount_66 fu on len bytes list l t i (list (128 * l + i)) o j) (fun o => (20 - o).toNat) (fun o => M ≤ o ∧ o ≤ len (list (128 * l + i)) ∧ ∀ n, M < n → n ≤ o → EQn on len bytes n (list (128 * l + i)) (list (128 * l + j))) (fun o => M ≤ o ∧ o ≤ len (list (128 * l + i)) ∧ ∀ n, 1 ≤ n → n ≤ len (list (128 * l + i)) → (n ≤ o ↔ n ≤ M ∨ EQn on len bytes n (list (128 * l + i)) (list (128 * l + j)))) ?_ FU M ⟨by omega, by omega, fun n a b => by omega⟩ (FU_lt (by omega))
                · obtain ⟨o, z1, z2, z3, z4⟩ := inner
                  have z1 : s_X8_stateCount_66 FU on len bytes list l t i (list (128 * l + i)) M j = some o := z1
                  refine ⟨(o, j + 1), ⟨by show 0 ≤ j + 1; omega, by show j + 1 ≤ i; omega, ?_⟩, by show (i - (j + 1)).toNat < (i - j).toNat; omega, ?_⟩
                  · show CH on len bytes (list (128 * l + i)) (fun i => list (128 * l + (i : Int))) (j + 1).toNat o
                    rw [show (j + 1).toNat = j.toNat + 1 by omega]
                    refine f3.step (v := 0) (by omega) (by omega) (fun n a b => ?_)
                    have ej : ((j.toNat : Nat) : Int) = j := by omega
                    show n ≤ o ↔ n ≤ M ∨ EQn on len bytes n (list (128 * l + i)) (list (128 * l + ((j.toNat : Nat) : Int)))
                    rw [ej]
                    exact z4 n a b
                  · simp (disch := omega) only [cLt_t, cLt_f, cEq_t, cEq_f, cLtL_t, cLtL_f, cEqL_t, cEqL_f, cR_t, cRL_t, cZ_t, cN_t, cCp_t, rdA_t, ob_e, bd1_e, bd2_e, bd3_e, bd4_e, bd5_e, bd6_e, bd7_e, bd8_e, bd9_e, bd10_e, bd12_e, z1]
                · intro fu o ⟨y1, y2, y3⟩
                  simp only [s_X8_stateCount_66_s]
                  by_cases ho : o < len (list (128 * l + i))
                  · obtain ⟨w, w1, w2⟩ := X8_areLike_e (x := list (128 * l + i)) (y := list (128 * l + j)) (n := o + 1) hK o1 o2 hm.1 hm.2 hmj.1 hmj.2 (by omega) (by omega)
                    rcases w2 with ⟨w2, w3⟩ | ⟨w2, w3⟩
                    · right
                      refine ⟨o + 1, ⟨by omega, by omega, fun n a b => ?_⟩, by omega, ?_⟩
                      · by_cases hn : n = o + 1
                        · subst hn; exact w3
                        · exact y3 n a (by omega)
                      · simp (disch := omega) only [cLt_t, cLt_f, cEq_t, cEq_f, cLtL_t, cLtL_f, cEqL_t, cEqL_f, cR_t, cRL_t, cZ_t, cN_t, cCp_t, rdA_t, ob_e, bd1_e, bd2_e, bd3_e, bd4_e, bd5_e, bd6_e, bd7_e, bd8_e, bd9_e, bd10_e, bd12_e, w1]
                    · left
                      refine ⟨o, ?_, y1, y2, fun n a b => ⟨fun q => ?_, fun q => ?_⟩⟩
                      · simp (disch := omega) only [cLt_t, cLt_f, cEq_t, cEq_f, cLtL_t, cLtL_f, cEqL_t, cEqL_f, cR_t, cRL_t, cZ_t, cN_t, cCp_t, rdA_t, ob_e, bd1_e, bd2_e, bd3_e, bd4_e, bd5_e, bd6_e, bd7_e, bd8_e, bd9_e, bd10_e, bd12_e, w1]
                      · rcases Int.lt_or_le M n with z | z
                        · exact Or.inr (y3 n z q)
                        · exact Or.inl z
                      · rcases q with q | q
                        · omega
                        · rcases Int.lt_or_le o n with z | z
                          · exact absurd (q.le (by omega)) w3
                          · exact z
                  · left
                    refine ⟨o, ?_, y1, y2, fun n a b => ⟨fun q => ?_, fun q => by omega⟩⟩
                    · simp (disch := omega) only [cLt_t, cLt_f, cEq_t, cEq_f, cLtL_t, cLtL_f, cEqL_t, cEqL_f, cR_t, cRL_t, cZ_t, cN_t, cCp_t, rdA_t, ob_e, bd1_e, bd2_e, bd3_e, bd4_e, bd5_e, bd6_e, bd7_e, bd8_e, bd9_e, bd10_e, bd12_e]
                    · rcases Int.lt_or_le M n with z | z
                      · exact Or.inr (y3 n z q)
                      · exact Or.inl z
              · left
                refine ⟨M, ?_, ?_⟩
                · simp (disch := omega) only [cLt_t, cLt_f, cEq_t, cEq_f, cLtL_t, cLtL_f, cEqL_t, cEqL_f, cR_t, cRL_t, cZ_t, cN_t, cCp_t, rdA_t, ob_e, bd1_e, bd2_e, bd3_e, bd4_e, bd5_e, bd6_e, bd7_e, bd8_e, bd9_e, bd10_e, bd12_e]
                · rw [show i.toNat = j.toNat by omega]; exact f3
          · left
            refine ⟨t, ?_, ?_⟩
            · simp (disch := omega) only [cLt_t, cLt_f, cEq_t, cEq_f, cLtL_t, cLtL_f, cEqL_t, cEqL_f, cR_t, cRL_t, cZ_t, cN_t, cCp_t, rdA_t, ob_e, bd1_e, bd2_e, bd3_e, bd4_e, bd5_e, bd6_e, bd7_e, bd8_e, bd9_e, bd10_e, bd12_e, hb.1]
            · rw [g3, show i.toNat = (szc c l).toNat by omega]
      have e3 : SC on len bytes (fun i => list (128 * l + (i : Int))) (szc c l).toNat = SC on len bytes (fun i => mem (fsc c l + (i : Int))) (szc c l).toNat := by
        rw [← SC_rev]
        have congrS : ∀ (a b : Nat → Int) (s : Nat), (∀ i, i < s → a i = b i) → SC on len bytes a s = SC on len bytes b s := by
          intro a b s hab
          unfold SC
          refine sm_c (fun i hi => sm_c (fun n hn => ?_))
          rw [hab i hi]
          exact ind_c ⟨fun q => ⟨q.1, fun ⟨j, x, y⟩ => q.2 ⟨j, x, by rw [hab j (by omega)]; exact y⟩⟩, fun q => ⟨q.1, fun ⟨j, x, y⟩ => q.2 ⟨j, x, by rw [← hab j (by omega)]; exact y⟩⟩⟩
        refine congrS _ _ _ (fun i hi => ?_)
        show list (128 * l + (((szc c l).toNat - 1 - i : Nat) : Int)) = mem (fsc c l + (i : Int))
        rw [hb.2 _ (by omega) (by omega)]
        congr 1
        omega
      rw [e3] at e2
      exact ⟨1 + SC on len bytes (fun i => mem (fsc c l + (i : Int))) (szc c l).toNat, by simp (disch := omega) only [cLt_t, cLt_f, cEq_t, cEq_f, cLtL_t, cLtL_f, cEqL_t, cEqL_f, cR_t, cRL_t, cZ_t, cN_t, cCp_t, rdA_t, ob_e, bd1_e, bd2_e, bd3_e, bd4_e, bd5_e, bd6_e, bd7_e, bd8_e, bd9_e, bd10_e, bd12_e, X7_isLevel_e, if_pos h, X0_sizeAt_e, X0_firstAt_e, e1], by simp (disch := omega) only [cLt_t, cLt_f, cEq_t, cEq_f, cLtL_t, cLtL_f, cEqL_t, cEqL_f, cR_t, cRL_t, cZ_t, cN_t, cCp_t, rdA_t, ob_e, bd1_e, bd2_e, bd3_e, bd4_e, bd5_e, bd6_e, bd7_e, bd8_e, bd9_e, bd10_e, bd12_e, X8_isLevel_e, if_pos h, hb.1, e2]⟩
  · exact ⟨-3, by simp (disch := omega) only [cLt_t, cLt_f, cEq_t, cEq_f, cLtL_t, cLtL_f, cEqL_t, cEqL_f, cR_t, cRL_t, cZ_t, cN_t, cCp_t, rdA_t, ob_e, bd1_e, bd2_e, bd3_e, bd4_e, bd5_e, bd6_e, bd7_e, bd8_e, bd9_e, bd10_e, bd12_e, X7_isLevel_e, if_neg h], by simp (disch := omega) only [cLt_t, cLt_f, cEq_t, cEq_f, cLtL_t, cLtL_f, cEqL_t, cEqL_f, cR_t, cRL_t, cZ_t, cN_t, cCp_t, rdA_t, ob_e, bd1_e, bd2_e, bd3_e, bd4_e, bd5_e, bd6_e, bd7_e, bd8_e, bd9_e, bd10_e, bd12_e, X8_isLevel_e, if_neg h]⟩
