/-! ===== the superstring: one joining, on both sides ===== -/
def CHN (gv : Int) (len bytes nx sk ls : Int → Int) (E : Int → Prop) (e : Int) (f : Int → Int) (a l n : Int) : Prop := ∃ r : List Int, LK nx (e :: r) ∧ ls e = lst e r ∧ (∀ x ∈ e :: r, 0 ≤ x ∧ x < gv) ∧ (∀ x ∈ r, ¬ E x) ∧ lenc len sk (e :: r) 0 = l ∧ carc len sk (e :: r) 0 = 0 ∧ (∀ j, 0 ≤ j → j < l → byc len bytes sk (e :: r) 0 j = f (a + j)) ∧ ((r.length : Nat) : Int) + 1 ≤ n ∧ ∀ x ∈ r, 0 ≤ sk x ∧ sk x ≤ 15
theorem CHN.last {gv e a l n : Int} {len bytes nx sk ls f : Int → Int} {E : Int → Prop} (h : CHN gv len bytes nx sk ls E e f a l n) : 0 ≤ ls e ∧ ls e < gv := by
  obtain ⟨r, h1, h2, h3, -⟩ := h
  rw [h2]
  exact h3 _ (lst_mem r e)
/-- a chain whose last is another's is not touched by a new link behind the other's last -/
theorem CHN.free {gv e a l n e2 a2 l2 n2 : Int} {len bytes nx sk ls f f2 : Int → Int} {E E2 : Int → Prop} (h : CHN gv len bytes nx sk ls E e f a l n) (g : CHN gv len bytes nx sk ls E2 e2 f2 a2 l2 n2) (hl : ls e ≠ ls e2) : ∀ r : List Int, LK nx (e2 :: r) → ls e2 = lst e2 r → (∀ x ∈ e2 :: r, 0 ≤ x ∧ x < gv) → ls e ∉ e2 :: r := by
  intro r k1 k2 k3 hm
  obtain ⟨q, h1, h2, -⟩ := h
  rcases LK_mem r e2 (ls e) k1 hm with u | u
  · exact hl (by rw [u, k2])
  · have e1 := LK_last q e h1
    rw [← h2] at e1
    have := k3 _ u
    omega
theorem CHN.other {gv e a l n a2 p y o : Int} {len bytes nx sk ls ls2 f f2 : Int → Int} {E E2 : Int → Prop} (h : CHN gv len bytes nx sk ls E e f a l n) (hp : ∀ r : List Int, LK nx (e :: r) → ls e = lst e r → (∀ x ∈ e :: r, 0 ≤ x ∧ x < gv) → p ∉ e :: r) (hy : E y) (hE : ∀ x, E2 x → E x) (hls : ls2 e = ls e) (hf : ∀ j, 0 ≤ j → j < l → f2 (a2 + j) = f (a + j)) : CHN gv len bytes (upA nx p y) (upA sk y o) ls2 E2 e f2 a2 l n := by
  obtain ⟨r, h1, h2, h3, h4, h5, h6, h7, h8, h9⟩ := h
  have hsk : ∀ x ∈ r, upA sk y o x = sk x := fun x hx => upA_n (fun k => h4 x hx (by rw [k]; exact hy))
  obtain ⟨c1, c2, c3⟩ := chain_cg (len := len) (bytes := bytes) (sk := sk) (sk2 := upA sk y o) r e 0 hsk
  refine ⟨r, LK_up _ h1 (hp r h1 h2 h3), by rw [hls]; exact h2, h3, fun x hx k => h4 x hx (hE x k), by rw [c1]; exact h5, by rw [c2]; exact h6, fun j u w => ?_, h8, fun x hx => by rw [hsk x hx]; exact h9 x hx⟩
  rw [c3, h7 j u w, hf j u w]
theorem CHN.join {gv x y a la b lb o na nb c : Int} {len bytes nx sk ls ls2 f g h : Int → Int} {E E2 : Int → Prop} (hx : CHN gv len bytes nx sk ls E x f a la na) (hy : CHN gv len bytes nx sk ls E y g b lb nb) (hl : ls x ≠ ls y) (hE : ∀ z, E2 z → E z) (hEy : E y) (hE2 : ¬ E2 y) (ho : 0 ≤ o) (ho15 : o ≤ 15) (hob : o < lb) (hla : 0 ≤ la) (hls : ls2 x = ls y) (hc1 : ∀ j, 0 ≤ j → j < la → h (c + j) = f (a + j)) (hc2 : ∀ j, 0 ≤ j → j < lb - o → h (c + la + j) = g (b + o + j)) : CHN gv len bytes (upA nx (ls x) y) (upA sk y o) ls2 E2 x h c (la + (lb - o)) (na + nb) := by
  have fr := CHN.free hx hy hl
  obtain ⟨r, h1, h2, h3, h4, h5, h6, h7, h8, h9⟩ := hx
  obtain ⟨t, k1, k2, k3, k4, k5, k6, k7, k8, k9⟩ := hy
  obtain ⟨c1, c2, c3⟩ := chain_cg (len := len) (bytes := bytes) (sk := sk) (sk2 := upA sk y o) r x 0 (fun z hz => upA_n (fun k => h4 z hz (by rw [k]; exact hEy)))
  have cg := fun s => chain_cg (len := len) (bytes := bytes) (sk := sk) (sk2 := upA sk y o) t y s (fun z hz => upA_n (fun k => k4 z hz (by rw [k]; exact hEy)))
  obtain ⟨p1, p2, p3⟩ := chain_app (len := len) (bytes := bytes) (sk := upA sk y o) (h := y) (t := t) r x 0
  have es : upA sk y o y + carc len (upA sk y o) (x :: r) 0 = 0 + o := by rw [upA_s, c2, h6]; omega
  have ee : (x :: r) ++ y :: t = x :: (r ++ y :: t) := rfl
  refine ⟨r ++ y :: t, ?_, ?_, fun z hz => ?_, fun z hz => ?_, ?_, ?_, fun j u w => ?_, ?_, fun z hz => ?_⟩
  · rw [← ee, h2]
    refine LK_app r x h1 (fun z hz => (h3 z hz).1) ?_
    rw [← h2]
    exact LK_up _ k1 (fr t k1 k2 k3)
  · rw [hls, k2, lst_app]
  · rw [← ee] at hz
    rcases List.mem_append.mp hz with q | q
    · exact h3 z q
    · exact k3 z q
  · rcases List.mem_append.mp hz with q | q
    · exact fun w => h4 z q (hE z w)
    · rcases List.mem_cons.mp q with q | q
      · rw [q]; exact hE2
      · exact fun w => k4 z q (hE z w)
  · rw [← ee, p1, es, c1, h5, (cg (0 + o)).1, lenc_add _ _ _ ho, k5]
    have := mz_e (lb - o)
    omega
  · rw [← ee, p2, es, (cg (0 + o)).2.1, carc_add _ _ _ ho, k5, k6]
    have := mz_e (o - lb)
    omega
  · rw [← ee, p3 j u, c1, h5, es]
    by_cases d : j < la
    · rw [if_pos d, c3, h7 j u d, hc1 j u d]
    · rw [if_neg d, (cg (0 + o)).2.2, byc_add _ _ _ _ ho (by omega), k7 _ (by omega) (by omega)]
      have := hc2 (j - la) (by omega) (by omega)
      rw [show c + la + (j - la) = c + j by omega] at this
      rw [this]; congr 1; omega
  · rw [List.length_append, List.length_cons]
    omega
  · rcases List.mem_append.mp hz with q | q
    · rw [upA_n (fun k => h4 z q (by rw [k]; exact hEy))]; exact h9 z q
    · rcases List.mem_cons.mp q with q | q
      · rw [q, upA_s]; exact ⟨ho, ho15⟩
      · rw [upA_n (fun k => k4 z q (by rw [k]; exact hEy))]; exact k9 z q
theorem pf_nlj {cl : Int → Int} {x y o s : Int} (hx : 0 ≤ x) (hx2 : x < s) (hy : 0 ≤ y) (hy2 : y < s) (hxy : x ≠ y) : pf (nlj cl x y o) s = pf cl s - o := by
  have e : pf (nlj cl x y o) s = pf (fun i => (fun i => cl i + (if i = x then cl y - o else 0)) i + (if i = y then - cl y else 0)) s := pf_cg (fun i a b => by
    show nlj cl x y o i = cl i + (if i = x then cl y - o else 0) + (if i = y then - cl y else 0)
    unfold nlj
    by_cases c : i = x
    · rw [if_pos c, if_pos c, if_neg (by omega), c]; omega
    · rw [if_neg c, if_neg c]
      by_cases d : i = y
      · rw [if_pos d, if_pos d, d]; omega
      · rw [if_neg d, if_neg d]; omega)
  rw [e, pf_at hy (by omega), pf_at hx (by omega), if_pos hx2, if_pos hy2]
  omega
def us (j t : Int) : Int := if t < j then t else t + 1
theorem us_e {j t m : Int} (h0 : 0 ≤ t) (h1 : t < m - 1) (hj : 0 ≤ j) : 0 ≤ us j t ∧ us j t < m ∧ us j t ≠ j := by
  unfold us; split <;> omega
theorem us_inv {j u m : Int} (h0 : 0 ≤ u) (h1 : u < m) (hj : 0 ≤ j) (hj2 : j < m) (hn : u ≠ j) : ∃ t, 0 ≤ t ∧ t < m - 1 ∧ us j t = u := by
  by_cases c : u < j
  · exact ⟨u, h0, by omega, by unfold us; rw [if_pos c]⟩
  · exact ⟨u - 1, by omega, by omega, by unfold us; rw [if_neg (by omega)]; omega⟩
theorem us_lt {j a b : Int} (h : a < b) : us j a < us j b := by
  unfold us; split <;> split <;> omega
theorem shf_us {f : Int → Int} {j t : Int} : shf f j t = f (us j t) := by
  unfold shf us; split <;> rfl
def JE (m : Int) (el : Int → Int) (x : Int) : Prop := ∃ t, 0 ≤ t ∧ t < m ∧ el t = x
def JO (on : Int) (len bytes : Int → Int) (m : Int) (sg st ln area : Int → Int) (k : Int) : Prop := ∃ i d, 0 ≤ i ∧ i < m ∧ 0 ≤ d ∧ d + len k ≤ ln (sg i) ∧ RE on bytes (16 * k) area (st (sg i) + d) (len k)
def JV (on gv : Int) (len bytes : Int → Int) (C : Int → Prop) (m slots al : Int) (sg st ln area ov el lg hd tl nx sk ls cl : Int → Int) : Prop :=
  CI slots al st ln area ∧ JA gv m slots sg ln el ∧ (∀ u v, 0 ≤ u → u < slots → 0 ≤ v → v < slots → QS ln u v → OVV on st ln area ov u v) ∧
  (∀ i, 0 ≤ i → i < m → HT lg hd tl (el i) area (st (sg i)) (ln (sg i))) ∧ (∀ i, 0 ≤ i → i < m → CHN gv len bytes nx sk ls (JE m el) (el i) area (st (sg i)) (ln (sg i)) (cl (sg i))) ∧
  (∀ i j, 0 ≤ i → i < m → 0 ≤ j → j < m → i ≠ j → ls (el i) ≠ ls (el j)) ∧ (∀ s, 0 ≤ s → s < slots → 0 ≤ cl s) ∧ pf cl slots ≤ 40 ∧ ∀ k, C k → JO on len bytes m sg st ln area k
theorem JO.step {on m slots k i j o : Int} {len bytes sg st ln area st2 ln2 area2 : Int → Int} (h : JO on len bytes m sg st ln area k) (hi : 0 ≤ i) (hi2 : i < m) (hj : 0 ≤ j) (hj2 : j < m) (hij : i ≠ j) (hsg : ∀ t, 0 ≤ t → t < m → 0 ≤ sg t ∧ sg t < slots) (hinj : ∀ s t, 0 ≤ s → s < m → 0 ≤ t → t < m → s ≠ t → sg s ≠ sg t) (ho : 0 ≤ o) (hoi : o ≤ ln (sg i)) (hoj : o ≤ ln (sg j)) (hR : RE on area (st (sg i) + ln (sg i) - o) area (st (sg j)) o) (eL : ∀ s, 0 ≤ s → s < slots → ln2 s = nlj ln (sg i) (sg j) o s) (eA : ∀ s j', 0 ≤ s → s < slots → s ≠ sg j → 0 ≤ j' → j' < ln s → area2 (st2 s + j') = area (st s + j')) (eB : ∀ j', 0 ≤ j' → j' < ln (sg j) - o → area2 (st2 (sg i) + ln (sg i) + j') = area (st (sg j) + o + j')) (hk : 0 ≤ len k) : JO on len bytes (m - 1) (shf sg j) st2 ln2 area2 k := by
  obtain ⟨u, d, u1, u2, d1, d2, hRE⟩ := h
  have ri := hsg i hi hi2
  have rj := hsg j hj hj2
  have nij := hinj i j hi hi2 hj hj2 hij
  have lx : ln2 (sg i) = ln (sg i) + (ln (sg j) - o) := by rw [eL _ ri.1 ri.2]; unfold nlj; rw [if_pos rfl]
  by_cases c : u = j
  · subst c
    obtain ⟨t, t1, t2, t3⟩ := us_inv hi hi2 hj hj2 hij
    refine ⟨t, ln (sg i) - o + d, t1, t2, by omega, ?_, fun q w z => ?_⟩
    · rw [shf_us, t3, lx]; omega
    · rw [hRE q w z, shf_us, t3]
      by_cases e : ln (sg i) - o + d + q < ln (sg i)
      · have := eA (sg i) (ln (sg i) - o + d + q) ri.1 ri.2 nij (by omega) e
        rw [show st2 (sg i) + (ln (sg i) - o + d) + q = st2 (sg i) + (ln (sg i) - o + d + q) by omega, this]
        have := hR (d + q) (by omega) (by omega)
        rw [show st (sg i) + ln (sg i) - o + (d + q) = st (sg i) + (ln (sg i) - o + d + q) by omega, show st (sg u) + (d + q) = st (sg u) + d + q by omega] at this
        exact this.symm
      · have := eB (d + q - o) (by omega) (by omega)
        rw [show st2 (sg i) + (ln (sg i) - o + d) + q = st2 (sg i) + ln (sg i) + (d + q - o) by omega, this, show st (sg u) + o + (d + q - o) = st (sg u) + d + q by omega]
  · obtain ⟨t, t1, t2, t3⟩ := us_inv u1 u2 hj hj2 c
    have ru := hsg u u1 u2
    have nuj := hinj u j u1 u2 hj hj2 c
    have l2 : ln (sg u) ≤ ln2 (sg u) := by
      rw [eL _ ru.1 ru.2]; unfold nlj
      by_cases e : sg u = sg i
      · rw [if_pos e, e]; omega
      · rw [if_neg e, if_neg nuj]; omega
    refine ⟨t, d, t1, t2, d1, ?_, fun q w z => ?_⟩
    · rw [shf_us, t3]; omega
    · rw [hRE q w z, shf_us, t3]
      have := eA (sg u) (d + q) ru.1 ru.2 nuj (by omega) (by omega)
      rw [show st2 (sg u) + d + q = st2 (sg u) + (d + q) by omega, this, show st (sg u) + (d + q) = st (sg u) + d + q by omega]
