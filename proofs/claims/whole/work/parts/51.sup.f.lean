/-! ===== the superstring: a whole step ===== -/
theorem JV.step {on gv m slots al spl : Int} {sw : Bool} {len bytes sg st ln area ov el lg hd tl nx sk ls cl spare ed : Int → Int} {C : Int → Prop} (o1 : 0 ≤ on) (o2 : on ≤ 1) (hg : gv ≤ 120) (hC : ∀ k, C k → 0 ≤ len k) (h : JV on gv len bytes C m slots al sg st ln area ov el lg hd tl nx sk ls cl) (hm : 2 ≤ m) :
    ∃ x y st2 ln2 al2 area2 ov2 el2 lg2 hd2 tl2 nx2 sk2 ls2 ed2 sg2 cl2, 0 ≤ x ∧ x < 40 ∧ 0 ≤ y ∧ y < 40 ∧ s_X6_widestPair slots ln ov = some (x * 40 + y) ∧ s_X6_join slots sw st ln ov al area spl spare x y = some (!sw, st2, ln2, al2, area2, al, area) ∧ s_X6_measureOverlaps on st2 ln2 ov area2 x slots = some ov2 ∧ s_X8_joinsBest on m el lg hd tl nx sk ls ed = some (m - 1, el2, lg2, hd2, tl2, nx2, sk2, ls2, ed2) ∧ JV on gv len bytes C (m - 1) slots al2 sg2 st2 ln2 area2 ov2 el2 lg2 hd2 tl2 nx2 sk2 ls2 cl2 := by
  obtain ⟨hCI, hJA, hOV, hHT, hCH, hLS, hcl, hcl2, hJO⟩ := h
  have hs0 := hCI.1
  have hs := hCI.2.1
  have hm2 := hJA.2.1
  have seg := fun i a b => hCI.seg (hJA.2.2.1 i a b).1 (hJA.2.2.1 i a b).2.1
  have rb : ∀ i, 0 ≤ i → i < m → RB area (st (sg i)) (ln (sg i)) := fun i a b => by
    have := hCI.rb (n := ln (sg i)) (hJA.2.2.1 i a b).1 (hJA.2.2.1 i a b).2.1 (Int.le_refl 0) (by omega)
    rw [show st (sg i) + 0 = st (sg i) by omega] at this
    exact this
  have hq : ∀ a b, 0 ≤ a → a < m → 0 ≤ b → b < m → a ≠ b → OVV on st ln area ov (sg a) (sg b) := fun a b p q r s t => hOV _ _ (hJA.2.2.1 a p q).1 (hJA.2.2.1 a p q).2.1 (hJA.2.2.1 b r s).1 (hJA.2.2.1 b r s).2.1 ⟨(hJA.inj p q r s t).1, (hJA.2.2.1 a p q).2.2.1, (hJA.2.2.1 b r s).2.2.1⟩
  have hO : ∀ a b, 0 ≤ a → a < m → 0 ≤ b → b < m → a ≠ b → s_X8_overlap on lg hd tl (el a) (el b) = some (ov (sg a * 40 + sg b)) ∧ 0 ≤ ov (sg a * 40 + sg b) ∧ ov (sg a * 40 + sg b) ≤ 15 := by
    intro a b p q r s t
    have ja := hJA.2.2.1 a p q
    have jb := hJA.2.2.1 b r s
    have sa := seg a p q
    have sb := seg b r s
    obtain ⟨v, v1, v2⟩ := X8_ovl_e o1 o2 ja.2.2.2.1 (show el a < 120 by omega) jb.2.2.2.1 (show el b < 120 by omega) (hHT a p q) (hHT b r s) ja.2.2.1 jb.2.2.1 (by omega) (by omega) (rb a p q) (rb b r s)
    have hv := hq a b p q r s t
    have e : v = ov (sg a * 40 + sg b) := DN.uniq v2 hv
    have rg := OVP.rg hv ja.2.2.1 jb.2.2.1
    rw [e] at v1
    exact ⟨v1, rg.1, rg.2.1⟩
  obtain ⟨i, j, v, a1, a2⟩ := joinsBest9_e hJA.1 hm2 hO
  obtain ⟨c, x, y, w, b1, b2, b3⟩ := widestPair_e hCI hOV
  obtain ⟨i1, i2, j1, j2, ij, ex, ey, ew, ev2⟩ := pair_same hJA hm (fun a b p q r s t => rfl) a2 b2
  have hov := hO i j i1 i2 j1 j2 ij
  have ec : c = x * 40 + y := by
    rcases b3 with ⟨q, -⟩ | ⟨-, q⟩
    · omega
    · exact q
  subst ec
  subst ex
  subst ey
  have ji := hJA.2.2.1 i i1 i2
  have jj := hJA.2.2.1 j j1 j2
  have si := seg i i1 i2
  have sj := seg j j1 j2
  have hxy := hJA.inj i1 i2 j1 j2 ij
  have rgo := OVP.rg (hq i j i1 i2 j1 j2 ij) ji.2.2.1 jj.2.2.1
  obtain ⟨st2, ln2, area2, d1, d2, d3, d4, d5⟩ := join_e (spl := spl) (sw := sw) (ov := ov) (spare := spare) hCI ji.1 ji.2.1 jj.1 jj.2.1 hxy.1 hov.2.1 (by omega)
  obtain ⟨ov2, f1, f2, f3⟩ := measureOverlaps_e (ov := ov) o1 o2 d2 ji.1 ji.2.1 hs0 (Int.le_refl _)
  have lsi := (hCH i i1 i2).last
  obtain ⟨hd2, tl2, ed2, g1, g2, g3⟩ := X8_joins_e (nx := nx) (sk := sk) (ls := ls) (ed := ed) ji.2.2.2.1 (show el i < 120 by omega) jj.2.2.2.1 (show el j < 120 by omega) hxy.2 (hHT i i1 i2) (hHT j j1 j2) ji.2.2.1 jj.2.2.1 (by omega) (by omega) hov.2.1 hov.2.2 rgo.2.2.1 rgo.2.2.2.1 lsi.1 (by omega)
  obtain ⟨el2, k1, k2⟩ := joinsBest121_e (el := el) hm2 j1 j2
  have ke : ∀ t, 0 ≤ t → t < m - 1 → el2 t = el (us j t) := fun t p q => by rw [k2 t p q, shf_us]
  have hE : ∀ z, JE (m - 1) el2 z → JE m el z := fun z ⟨t, t1, t2, t3⟩ => by
    have u := us_e t1 t2 j1
    exact ⟨us j t, u.1, u.2.1, by rw [← t3, ke t t1 t2]⟩
  have lnx : ln2 (sg i) = ln (sg i) + (ln (sg j) - ov (sg i * 40 + sg j)) := by rw [d3 _ ji.1 ji.2.1]; unfold nlj; rw [if_pos rfl]
  have lny : ln2 (sg j) = 0 := by rw [d3 _ jj.1 jj.2.1]; unfold nlj; rw [if_neg (fun e => hxy.1 e.symm), if_pos rfl]
  have lno : ∀ s, 0 ≤ s → s < slots → s ≠ sg i → s ≠ sg j → ln2 s = ln s := fun s p q r t => by rw [d3 s p q]; unfold nlj; rw [if_neg r, if_neg t]
  refine ⟨sg i, sg j, st2, ln2, al - ov (sg i * 40 + sg j), area2, ov2, el2, upA lg (el i) (ln (sg i) + (ln (sg j) - ov (sg i * 40 + sg j))), hd2, tl2, upA nx (ls (el i)) (el j), upA sk (el j) (ov (sg i * 40 + sg j)), upA ls (el i) (ls (el j)), ed2, shf sg j, nlj cl (sg i) (sg j) 0, by omega, by omega, by omega, by omega, b1, d1, f1, ?_, d2, ⟨by omega, by omega, fun t p q => ?_, fun s t p q r => ?_, fun s p q r => ?_⟩, fun u v p q r s t => ?_, fun t p q => ?_, fun t p q => ?_, fun s t p q r z n => ?_, fun s p q => ?_, ?_, fun k hk => ?_⟩
  · -- the model's step
    unfold s_X8_joinsBest
    have ev2 : v = ov (sg i * 40 + sg j) := ev2
    rw [← ev2] at g1 ⊢
    simp (disch := omega) only [cLt_t, cLt_f, cEq_t, cEq_f, cLtL_t, cLtL_f, cEqL_t, cEqL_f, cR_t, cRL_t, cZ_t, cN_t, cCp_t, rdA_t, ob_e, bd1_e, bd2_e, bd3_e, bd4_e, bd5_e, bd6_e, bd7_e, bd8_e, bd9_e, bd10_e, bd12_e, a1, g1, k1]
  · have u := us_e p q j1
    have ju := hJA.2.2.1 (us j t) u.1 u.2.1
    have nj := (hJA.inj u.1 u.2.1 j1 j2 u.2.2).1
    rw [ke t p q, shf_us]
    refine ⟨ju.1, ju.2.1, ?_, ju.2.2.2.1, ju.2.2.2.2⟩
    by_cases e : sg (us j t) = sg i
    · rw [e, lnx]; omega
    · rw [lno _ ju.1 ju.2.1 e nj]; exact ju.2.2.1
  · have u := us_e (m := m) p (by omega) j1
    have w := us_e (m := m) (show 0 ≤ t by omega) (by omega) j1
    rw [ke s p (by omega), ke t (by omega) r, shf_us, shf_us]
    exact hJA.2.2.2.1 _ _ u.1 (us_lt q) w.2.1
  · have nj : s ≠ sg j := fun e => by rw [e, lny] at r; omega
    have hl : 0 < ln s := by
      by_cases e : s = sg i
      · rw [e]; exact ji.2.2.1
      · rw [lno s p q e nj] at r; exact r
    obtain ⟨u, u1, u2, u3⟩ := hJA.2.2.2.2 s p q hl
    obtain ⟨t, t1, t2, t3⟩ := us_inv u1 u2 j1 j2 (fun e => nj (by rw [← u3, e]))
    exact ⟨t, t1, t2, by rw [shf_us, t3, u3]⟩
  · by_cases e : u = sg i
    · have := f2 v r s (fun e2 => t.1 (by rw [e, e2]))
      rw [e]; exact this.1
    · by_cases e2 : v = sg i
      · have := f2 u p q e
        rw [e2]; exact this.2
      · have nu : u ≠ sg j := fun k => by have := t.2.1; rw [k, lny] at this; omega
        have nv : v ≠ sg j := fun k => by have := t.2.2; rw [k, lny] at this; omega
        have lu := lno u p q e nu
        have lv := lno v r s e2 nv
        have old := hOV u v p q r s ⟨t.1, by rw [← lu]; exact t.2.1, by rw [← lv]; exact t.2.2⟩
        unfold OVV at old ⊢
        rw [f3 u v p q r s (fun k => e k.1) (fun k => e2 k.1), lu, lv]
        exact old.cg (hCI.seg p q).2.1 (hCI.seg r s).2.1 (fun j' a b => d4 u j' p q nu a b) (fun j' a b => d4 v j' r s nv a b)
  · have u := us_e p q j1
    have ju := hJA.2.2.1 (us j t) u.1 u.2.1
    have nj := (hJA.inj u.1 u.2.1 j1 j2 u.2.2).1
    rw [ke t p q, shf_us]
    by_cases e : us j t = i
    · rw [e, lnx]
      exact g3 area2 (st2 (sg i)) (fun j' a b => d4 (sg i) j' ji.1 ji.2.1 hxy.1 a b) d5
    · have ne := hJA.inj u.1 u.2.1 i1 i2 e
      rw [lno _ ju.1 ju.2.1 ne.1 nj]
      exact (hHT _ u.1 u.2.1).cg (Int.le_of_lt ju.2.2.1) (upA_n ne.2) (fun j' a b => g2 _ ju.2.2.2.1 ne.2 j' a b) (fun j' a b => d4 _ j' ju.1 ju.2.1 nj a b)
  · have u := us_e p q j1
    have ju := hJA.2.2.1 (us j t) u.1 u.2.1
    have nj := (hJA.inj u.1 u.2.1 j1 j2 u.2.2).1
    rw [ke t p q, shf_us]
    by_cases e : us j t = i
    · rw [e, lnx, show nlj cl (sg i) (sg j) 0 (sg i) = cl (sg i) + cl (sg j) by unfold nlj; rw [if_pos rfl]; omega]
      refine CHN.join (hCH i i1 i2) (hCH j j1 j2) (hLS i j i1 i2 j1 j2 ij) hE ⟨j, j1, j2, rfl⟩ ?_ hov.2.1 hov.2.2 rgo.2.2.2.1 (Int.le_of_lt ji.2.2.1) upA_s (fun j' a b => d4 (sg i) j' ji.1 ji.2.1 hxy.1 a b) d5
      rintro ⟨t', t1, t2, t3⟩
      have w := us_e t1 t2 j1
      rw [ke t' t1 t2] at t3
      exact (hJA.inj w.1 w.2.1 j1 j2 w.2.2).2 t3
    · have ne := hJA.inj u.1 u.2.1 i1 i2 e
      rw [lno _ ju.1 ju.2.1 ne.1 nj, show nlj cl (sg i) (sg j) 0 (sg (us j t)) = cl (sg (us j t)) by unfold nlj; rw [if_neg ne.1, if_neg nj]]
      exact (hCH _ u.1 u.2.1).other (CHN.free (hCH i i1 i2) (hCH _ u.1 u.2.1) (hLS i _ i1 i2 u.1 u.2.1 (fun k => e k.symm))) ⟨j, j1, j2, rfl⟩ hE (upA_n ne.2) (fun j' a b => d4 _ j' ju.1 ju.2.1 nj a b)
  · have u := us_e p q j1
    have w := us_e r z j1
    have nuw : us j s ≠ us j t := by
      rcases Int.lt_trichotomy s t with k | k | k
      · have := us_lt (j := j) k; omega
      · exact absurd k n
      · have := us_lt (j := j) k; omega
    rw [ke s p q, ke t r z]
    by_cases e : us j s = i
    · have ne : us j t ≠ i := fun k => nuw (by rw [e, k])
      rw [e, upA_s, upA_n (hJA.inj w.1 w.2.1 i1 i2 ne).2]
      exact hLS j _ j1 j2 w.1 w.2.1 (fun k => w.2.2 k.symm)
    · by_cases e2 : us j t = i
      · rw [e2, upA_s, upA_n (hJA.inj u.1 u.2.1 i1 i2 e).2]
        exact hLS _ j u.1 u.2.1 j1 j2 u.2.2
      · rw [upA_n (hJA.inj u.1 u.2.1 i1 i2 e).2, upA_n (hJA.inj w.1 w.2.1 i1 i2 e2).2]
        exact hLS _ _ u.1 u.2.1 w.1 w.2.1 nuw
  · have c1 := hcl (sg i) ji.1 ji.2.1
    have c2 := hcl (sg j) jj.1 jj.2.1
    have c3 := hcl s p q
    unfold nlj
    split
    · omega
    · split <;> omega
  · rw [pf_nlj ji.1 ji.2.1 jj.1 jj.2.1 hxy.1]; omega
  · exact JO.step (slots := slots) (hJO k hk) i1 i2 j1 j2 ij (fun t p q => ⟨(hJA.2.2.1 t p q).1, (hJA.2.2.1 t p q).2.1⟩) (fun s t p q r z n => (hJA.inj p q r z n).1) hov.2.1 (by omega) (by omega) rgo.2.2.2.2 d3 d4 d5 (hC k hk)
