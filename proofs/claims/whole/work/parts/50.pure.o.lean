/-! ===== what holds between the calls (but for the superstring) ===== -/
def IV (t : Nat) (on bl gv sl rep al mc rc : Int) (buf len bytes wt live str mem rmem words size list : Int → Int) : Prop :=
  (0 ≤ on ∧ on ≤ 1) ∧ (0 ≤ bl ∧ bl ≤ 200) ∧ (∀ j, 0 ≤ j → j < 200 → 0 ≤ buf j ∧ buf j < 256) ∧ KW gv len bytes wt live ∧ DSJ on gv len bytes live ∧ al = cntL live gv.toNat ∧ CN al mc rc ∧ MB gv mc mem ∧ BK 0 mc mem size list ∧ BK 7 rc rmem size list ∧ (0 ≤ sl ∧ sl ≤ 600) ∧ (∀ j, 0 ≤ j → j < 600 → 0 ≤ str j ∧ str j < 256) ∧ TBI on gv len bytes live str sl words ∧ (0 ≤ rep ∧ rep ≤ 3200 * (t : Int))
theorem rb_of {f : Int → Int} {n : Int} (h : ∀ j, 0 ≤ j → j < n → 0 ≤ f j ∧ f j < 256) : RB f 0 n := fun j a b => by
  rw [Int.zero_add]
  have := h j a b
  omega
theorem CN.rg {al mc rc : Int} (h : CN al mc rc) : 0 ≤ mc ∧ mc ≤ 79 ∧ 0 ≤ rc ∧ rc ≤ 39 := by
  obtain ⟨h1, h2, h3, h4, h5⟩ := h
  rcases h5 with h5 | h5 <;> omega
theorem IV.more {t : Nat} {on bl gv sl rep al mc rc : Int} {buf len bytes wt live str mem rmem words size list : Int → Int} (h : IV t on bl gv sl rep al mc rc buf len bytes wt live str mem rmem words size list) : IV (t + 1) on bl gv sl rep al mc rc buf len bytes wt live str mem rmem words size list := by
  obtain ⟨a1, a2, a3, a4, a5, a6, a7, a8, a9, b1, b2, b3, b4, b5⟩ := h
  exact ⟨a1, a2, a3, a4, a5, a6, a7, a8, a9, b1, b2, b3, b4, by omega⟩
theorem cntL_succ {live : Int → Int} {n : Nat} : cntL live (n + 1) = cntL live n + (if live (n : Int) = 0 then 0 else 1) := rfl
theorem rebuild_both {gv : Int} {live : Int → Int} (h1 : 0 ≤ gv) (h2 : gv ≤ 120) (hl : ∀ k, 0 ≤ k → k < gv → live k = 0 ∨ live k = 1) : ∀ (m : Nat) (k work : Int) (mem size list moved : Int → Int) (f1 f2 : Nat), k + m = gv → 0 ≤ k → BK 0 (cntL live k.toNat) mem size list → MB gv (cntL live k.toNat) mem → m < f1 → m < f2 → ∃ work2 mem2 size2 list2 moved2, s_X7_rebuild_26 f1 work gv live (cntL live k.toNat) mem k = some (work2, cntL live gv.toNat, mem2) ∧ s_X8_rebuilds_23 f2 gv work live size list moved k = some (work2, size2, list2, moved2) ∧ BK 0 (cntL live gv.toNat) mem2 size2 list2 ∧ MB gv (cntL live gv.toNat) mem2 ∧ ∀ l, 7 ≤ l → size2 l = size l := by
  intro m
  induction m with
  | zero =>
    intro k work mem size list moved f1 f2 hk h0 hB hM hf1 hf2
    obtain ⟨a, rfl⟩ : ∃ a, f1 = a + 1 := ⟨f1 - 1, by omega⟩
    obtain ⟨b, rfl⟩ : ∃ b, f2 = b + 1 := ⟨f2 - 1, by omega⟩
    have e : k = gv := by omega
    subst e
    refine ⟨work, mem, size, list, moved, ?_, ?_, hB, hM, fun _ _ => rfl⟩
    · rw [s_X7_rebuild_26_s]; simp (disch := omega) only [cLt_t, cLt_f, cEq_t, cEq_f, cLtL_t, cLtL_f, cEqL_t, cEqL_f, cR_t, cRL_t, cZ_t, cN_t, cCp_t, rdA_t, ob_e, bd1_e, bd2_e, bd3_e, bd4_e, bd5_e, bd6_e, bd7_e, bd8_e, bd9_e, bd10_e, bd12_e]
    · rw [s_X8_rebuilds_23_s]; simp (disch := omega) only [cLt_t, cLt_f, cEq_t, cEq_f, cLtL_t, cLtL_f, cEqL_t, cEqL_f, cR_t, cRL_t, cZ_t, cN_t, cCp_t, rdA_t, ob_e, bd1_e, bd2_e, bd3_e, bd4_e, bd5_e, bd6_e, bd7_e, bd8_e, bd9_e, bd10_e, bd12_e]
  | succ m ih =>
    intro k work mem size list moved f1 f2 hk h0 hB hM hf1 hf2
    obtain ⟨a, rfl⟩ : ∃ a, f1 = a + 1 := ⟨f1 - 1, by omega⟩
    obtain ⟨b, rfl⟩ : ∃ b, f2 = b + 1 := ⟨f2 - 1, by omega⟩
    have hc := cntL_rg live k.toNat
    have es : (k + 1).toNat = k.toNat + 1 := by omega
    have ek : ((k.toNat : Nat) : Int) = k := by omega
    rcases hl k h0 (by omega) with q | q
    · have ec : cntL live (k + 1).toNat = cntL live k.toNat := by rw [es, cntL_succ, ek, if_pos q]; omega
      obtain ⟨work2, mem2, size2, list2, moved2, z1, z2, z3, z4, z5⟩ := ih (k + 1) work mem size list moved a b (by omega) (by omega) (by rw [ec]; exact hB) (by rw [ec]; exact hM) (by omega) (by omega)
      rw [ec] at z1
      refine ⟨work2, mem2, size2, list2, moved2, ?_, ?_, z3, z4, z5⟩
      · rw [s_X7_rebuild_26_s]
        simp (disch := omega) only [cLt_t, cLt_f, cEq_t, cEq_f, cLtL_t, cLtL_f, cEqL_t, cEqL_f, cR_t, cRL_t, cZ_t, cN_t, cCp_t, rdA_t, ob_e, bd1_e, bd2_e, bd3_e, bd4_e, bd5_e, bd6_e, bd7_e, bd8_e, bd9_e, bd10_e, bd12_e, X3_isAlive_e, if_neg (show ¬ (0 ≤ k ∧ k < gv ∧ live k = 1) by omega), z1]
      · rw [s_X8_rebuilds_23_s]
        simp (disch := omega) only [cLt_t, cLt_f, cEq_t, cEq_f, cLtL_t, cLtL_f, cEqL_t, cEqL_f, cR_t, cRL_t, cZ_t, cN_t, cCp_t, rdA_t, ob_e, bd1_e, bd2_e, bd3_e, bd4_e, bd5_e, bd6_e, bd7_e, bd8_e, bd9_e, bd10_e, bd12_e, z2]
    · have ec : cntL live (k + 1).toNat = cntL live k.toNat + 1 := by rw [es, cntL_succ, ek, if_neg (by omega)]
      obtain ⟨size1, list1, moved1, i1, i2, i3, i4⟩ := X8_inserts_e (o := 0) (k := k) (work := work) (moved := moved) (Or.inl rfl) hc.1 (by omega) hB
      have hM2 : MB gv (cntL live k.toNat + 1) (upA mem (cntL live k.toNat) k) := fun i x y => by
        by_cases z : i = cntL live k.toNat
        · rw [z, upA_s]; omega
        · rw [upA_n z]; exact hM i x (by omega)
      obtain ⟨work2, mem2, size2, list2, moved2, z1, z2, z3, z4, z5⟩ := ih (k + 1) (work + lowb (cntL live k.toNat + 1)) (upA mem (cntL live k.toNat) k) size1 list1 moved1 a b (by omega) (by omega) (by rw [ec]; exact i2) (by rw [ec]; exact hM2) (by omega) (by omega)
      rw [ec] at z1
      have e0 := X0_insert_e (c := cntL live k.toNat) (k := k) (mem := mem) hc.1 (by omega)
      refine ⟨work2, mem2, size2, list2, moved2, ?_, ?_, z3, z4, fun l h => by rw [z5 l h, i3 l (by omega)]⟩
      · rw [s_X7_rebuild_26_s]
        simp (disch := omega) only [cLt_t, cLt_f, cEq_t, cEq_f, cLtL_t, cLtL_f, cEqL_t, cEqL_f, cR_t, cRL_t, cZ_t, cN_t, cCp_t, rdA_t, ob_e, bd1_e, bd2_e, bd3_e, bd4_e, bd5_e, bd6_e, bd7_e, bd8_e, bd9_e, bd10_e, bd12_e, X3_isAlive_e, if_pos (show 0 ≤ k ∧ k < gv ∧ live k = 1 by omega), e0, z1]
      · rw [s_X8_rebuilds_23_s]
        simp (disch := omega) only [cLt_t, cLt_f, cEq_t, cEq_f, cLtL_t, cLtL_f, cEqL_t, cEqL_f, cR_t, cRL_t, cZ_t, cN_t, cCp_t, rdA_t, ob_e, bd1_e, bd2_e, bd3_e, bd4_e, bd5_e, bd6_e, bd7_e, bd8_e, bd9_e, bd10_e, bd12_e, i1, z2]
theorem rebuild_e {gv work reb mc rc : Int} {live mem size list moved : Int → Int} (h1 : 0 ≤ gv) (h2 : gv ≤ 120) (hl : ∀ k, 0 ≤ k → k < gv → live k = 0 ∨ live k = 1) : ∃ work2 mem2 size2 list2 moved2, s_X7_rebuild work reb gv live mc mem rc = some (work2, reb + 1, cntL live gv.toNat, mem2, 0) ∧ s_X8_rebuilds gv work reb live size list moved = some (work2, reb + 1, size2, list2, moved2) ∧ BK 0 (cntL live gv.toNat) mem2 size2 list2 ∧ MB gv (cntL live gv.toNat) mem2 ∧ ∀ rm, BK 7 0 rm size2 list2 := by
  have Z := loopR (fun fu (st : (Int → Int) × Int) => s_X8_rebuilds_2 fu st.1 st.2) (fun st => (14 - st.2).toNat) (fun st => 0 ≤ st.2 ∧ st.2 ≤ 14 ∧ ∀ q, 0 ≤ q → q < st.2 → st.1 q = 0) (fun r => ∀ q, 0 ≤ q → q < 14 → r q = 0) ?_ FU (size, 0) ⟨Int.le_refl _, by show (0 : Int) ≤ 14; omega, fun q a b => by have : q < 0 := b; omega⟩ (FU_lt (by show ((14 : Int) - 0).toNat < _; omega))
  · obtain ⟨size0, e1, e2⟩ := Z
    have e1 : s_X8_rebuilds_2 FU size 0 = some size0 := e1
    have zz : ∀ l : Fin 7, szc 0 (l.val : Int) = 0 := by decide +kernel
    have z0 : ∀ l, 0 ≤ l → l < 7 → szc 0 l = 0 := fun l a b => by
      obtain ⟨n, rfl⟩ := Int.eq_ofNat_of_zero_le a
      exact zz ⟨n, by omega⟩
    have hB0 : BK 0 0 mem size0 list := fun l a b => ⟨by rw [z0 l a b]; exact e2 _ (by omega) (by omega), fun i c d => by rw [z0 l a b] at d; omega⟩
    obtain ⟨m, hm⟩ := Int.eq_ofNat_of_zero_le h1
    obtain ⟨work2, mem2, size2, list2, moved2, z1, z2, z3, z4, z5⟩ := rebuild_both h1 h2 hl m 0 work mem size0 list moved FU FU (by omega) (by omega) hB0 (fun i a b => by have : i < 0 := b; omega) (FU_lt (by omega)) (FU_lt (by omega))
    have z1 : s_X7_rebuild_26 FU work gv live 0 mem 0 = some (work2, cntL live gv.toNat, mem2) := z1
    have c1 : s_X0_clear mc = some 0 := rfl
    have c2 : s_X0_clear rc = some 0 := rfl
    refine ⟨work2, mem2, size2, list2, moved2, ?_, ?_, z3, z4, fun rm l a b => ⟨?_, fun i c d => by rw [z0 l a b] at d; omega⟩⟩
    · unfold s_X7_rebuild
      simp (disch := omega) only [cLt_t, cLt_f, cEq_t, cEq_f, cLtL_t, cLtL_f, cEqL_t, cEqL_f, cR_t, cRL_t, cZ_t, cN_t, cCp_t, rdA_t, ob_e, bd1_e, bd2_e, bd3_e, bd4_e, bd5_e, bd6_e, bd7_e, bd8_e, bd9_e, bd10_e, bd12_e, c1, c2, z1]
    · unfold s_X8_rebuilds
      simp (disch := omega) only [cLt_t, cLt_f, cEq_t, cEq_f, cLtL_t, cLtL_f, cEqL_t, cEqL_f, cR_t, cRL_t, cZ_t, cN_t, cCp_t, rdA_t, ob_e, bd1_e, bd2_e, bd3_e, bd4_e, bd5_e, bd6_e, bd7_e, bd8_e, bd9_e, bd10_e, bd12_e, e1, z2]
    · rw [z0 l a b, z5 _ (by omega)]
      exact e2 _ (by omega) (by omega)
  · intro fu ⟨sz, l⟩ ⟨g1, g2, g3⟩
    have g1 : 0 ≤ l := g1
    have g2 : l ≤ 14 := g2
    have g3 : ∀ q, 0 ≤ q → q < l → sz q = 0 := g3
    simp only [s_X8_rebuilds_2_s]
    by_cases h : l < 14
    · right
      refine ⟨(upA sz l 0, l + 1), ⟨by show 0 ≤ l + 1; omega, by show l + 1 ≤ 14; omega, fun q a b => ?_⟩, by show ((14 : Int) - (l + 1)).toNat < (14 - l).toNat; omega, ?_⟩
      · show upA sz l 0 q = 0
        have b : q < l + 1 := b
        by_cases z : q = l
        · rw [z, upA_s]
        · rw [upA_n z]; exact g3 q a (by omega)
      · simp (disch := omega) only [cLt_t, cLt_f, cEq_t, cEq_f, cLtL_t, cLtL_f, cEqL_t, cEqL_f, cR_t, cRL_t, cZ_t, cN_t, cCp_t, rdA_t, ob_e, bd1_e, bd2_e, bd3_e, bd4_e, bd5_e, bd6_e, bd7_e, bd8_e, bd9_e, bd10_e, bd12_e]
    · left
      exact ⟨sz, by simp (disch := omega) only [cLt_t, cLt_f, cEq_t, cEq_f, cLtL_t, cLtL_f, cEqL_t, cEqL_f, cR_t, cRL_t, cZ_t, cN_t, cCp_t, rdA_t, ob_e, bd1_e, bd2_e, bd3_e, bd4_e, bd5_e, bd6_e, bd7_e, bd8_e, bd9_e, bd10_e, bd12_e], fun q a b => g3 q a (by omega)⟩
theorem BK.other {o o2 c : Int} {mem size list size2 list2 : Int → Int} (h : BK o c mem size list) (ho : (o = 0 ∧ o2 = 7) ∨ (o = 7 ∧ o2 = 0)) (hc : 0 ≤ c) (hc2 : c < 128) (h1 : ∀ l, (l < o2 ∨ o2 + 7 ≤ l) → size2 l = size l) (h2 : ∀ i, (i < 128 * o2 ∨ 128 * (o2 + 7) ≤ i) → list2 i = list i) : BK o c mem size2 list2 := fun l a b => by
  have hb := h l a b
  have hr := sz_rg hc hc2 a b
  have hp := p2_rg a b
  exact ⟨by rw [h1 _ (by omega)]; exact hb.1, fun i c d => by rw [h2 _ (by omega)]; exact hb.2 i c d⟩
theorem op_removeKeyword {t : Nat} {on bl gv sl rep al mc rc work reb built laid k th : Int} {buf len bytes wt live str mem rmem words size list moved : Int → Int} (h : IV t on bl gv sl rep al mc rc buf len bytes wt live str mem rmem words size list) (h3 : -2147483648 ≤ k) (h4 : k < 2147483648) :
    ∃ r work2 reb2 al2 mc2 rc2 built2 laid2 live2 mem2 rmem2 words2 size2 list2 moved2, s_X7_removeKeyword work reb gv al len live mc mem rc rmem built sl words k = some (r, work2, reb2, al2, live2, mc2, mem2, rc2, rmem2, built2, words2) ∧ s_X8_removeKeyword th gv work reb laid live size list moved k = some (r, 0, work2, reb2, laid2, live2, size2, list2, moved2) ∧ IV t on bl gv sl rep al2 mc2 rc2 buf len bytes wt live2 str mem2 rmem2 words2 size2 list2 ∧ ((live2 = live ∧ built2 = built ∧ laid2 = laid) ∨ (built2 = 0 ∧ laid2 = 0)) := by
  obtain ⟨a1, a2, a3, a4, a5, a6, a7, a8, a9, b1, b2, b3, b4, b5⟩ := id h
  have hg0 := a4.1
  have hg := a4.2.1
  have hlv := fun a b => (a4.2.2 k a b).2.2.2.2.1
  have hcr := a7.rg
  unfold s_X7_removeKeyword s_X8_removeKeyword
  by_cases hk : 0 ≤ k ∧ k < gv ∧ live k = 1
  · have hkL : LV gv live k := hk
    obtain ⟨words2, w1, w2⟩ := X7_dropAllMatchesOf_e a4 a5 b2.1 b2.2 hkL b4
    have hK2 : KW gv len bytes wt (upA live k 0) := a4.kill
    have hcnt : cntL (upA live k 0) gv.toNat = cntL live gv.toNat - 1 := cntL_kill hk.1 (by omega) (by omega)
    have hret : s_X3_retire gv al live k = some (al - 1, upA live k 0) := by
      unfold s_X3_retire
      simp (disch := omega) only [cLt_t, cLt_f, cEq_t, cEq_f, cLtL_t, cLtL_f, cEqL_t, cEqL_f, cR_t, cRL_t, cZ_t, cN_t, cCp_t, rdA_t, ob_e, bd1_e, bd2_e, bd3_e, bd4_e, bd5_e, bd6_e, bd7_e, bd8_e, bd9_e, bd10_e, bd12_e, X3_isAlive_e, if_pos hk]
    have hfor : s_X6_forget built = some 0 := rfl
    have e0 := X0_insert_e (c := rc) (k := k) (mem := rmem) (by omega) (by omega)
    obtain ⟨size1, list1, moved1, i1, i2, i3, i4⟩ := X8_inserts_e (o := 7) (k := k) (work := work) (moved := moved) (Or.inr rfl) (show 0 ≤ rc by omega) (by omega) b1
    have hB0 : BK 0 mc mem size1 list1 := a9.other (Or.inl ⟨rfl, rfl⟩) (by omega) (by omega) i3 i4
    have s7 := X8_sizeOf_e (o := 7) (Or.inr rfl) (show 0 ≤ rc + 1 by omega) (by omega) i2
    have s0 := X8_sizeOf_e (o := 0) (Or.inl rfl) (show 0 ≤ mc by omega) (by omega) hB0
    have hlv2 : ∀ j, 0 ≤ j → j < gv → upA live k 0 j = 0 ∨ upA live k 0 j = 1 := fun j a b => (hK2.2.2 j a b).2.2.2.2.1
    have l8 := X8_lives_e hg0 hg hlv2
    have hal : al - 1 = cntL (upA live k 0) gv.toNat := by omega
    obtain ⟨c1, c2, c3, c4, c5⟩ := a7
    have hpos : 1 ≤ al := by have := cntL_rg (upA live k 0) gv.toNat; omega
    by_cases hr : 2 * (rc + 1) < mc
    · refine ⟨al - 1, work + lowb (rc + 1), reb, al - 1, mc, rc + 1, 0, 0, upA live k 0, mem, upA rmem rc k, words2, size1, list1, moved1, ?_, ?_, ⟨a1, a2, a3, hK2, a5.kill, hal, ⟨by omega, by omega, by omega, by omega, by omega⟩, a8, hB0, i2, b2, b3, w2, b5⟩, Or.inr ⟨rfl, rfl⟩⟩
      · simp (disch := omega) only [cLt_t, cLt_f, cEq_t, cEq_f, cLtL_t, cLtL_f, cEqL_t, cEqL_f, cR_t, cRL_t, cZ_t, cN_t, cCp_t, rdA_t, ob_e, bd1_e, bd2_e, bd3_e, bd4_e, bd5_e, bd6_e, bd7_e, bd8_e, bd9_e, bd10_e, bd12_e, X3_isAlive_e, if_pos hk, w1, hret, hfor, e0]
      · simp (disch := omega) only [cLt_t, cLt_f, cEq_t, cEq_f, cLtL_t, cLtL_f, cEqL_t, cEqL_f, cR_t, cRL_t, cZ_t, cN_t, cCp_t, rdA_t, ob_e, bd1_e, bd2_e, bd3_e, bd4_e, bd5_e, bd6_e, bd7_e, bd8_e, bd9_e, bd10_e, bd12_e, X8_isLiveOne_e, if_pos hk, i1, s7, s0, l8]
        rw [hal]
    · obtain ⟨work2, mem2, size2, list2, moved2, z1, z2, z3, z4, z5⟩ := rebuild_e (work := work + lowb (rc + 1)) (reb := reb) (mc := mc) (rc := rc + 1) (mem := mem) (size := size1) (list := list1) (moved := moved1) hg0 hg hlv2
      refine ⟨al - 1, work2, reb + 1, al - 1, cntL (upA live k 0) gv.toNat, 0, 0, 0, upA live k 0, mem2, upA rmem rc k, words2, size2, list2, moved2, ?_, ?_, ⟨a1, a2, a3, hK2, a5.kill, hal, ⟨by omega, by omega, by omega, by omega, Or.inl rfl⟩, z4, z3, z5 _, b2, b3, w2, b5⟩, Or.inr ⟨rfl, rfl⟩⟩
      · simp (disch := omega) only [cLt_t, cLt_f, cEq_t, cEq_f, cLtL_t, cLtL_f, cEqL_t, cEqL_f, cR_t, cRL_t, cZ_t, cN_t, cCp_t, rdA_t, ob_e, bd1_e, bd2_e, bd3_e, bd4_e, bd5_e, bd6_e, bd7_e, bd8_e, bd9_e, bd10_e, bd12_e, X3_isAlive_e, if_pos hk, w1, hret, hfor, e0, z1]
      · simp (disch := omega) only [cLt_t, cLt_f, cEq_t, cEq_f, cLtL_t, cLtL_f, cEqL_t, cEqL_f, cR_t, cRL_t, cZ_t, cN_t, cCp_t, rdA_t, ob_e, bd1_e, bd2_e, bd3_e, bd4_e, bd5_e, bd6_e, bd7_e, bd8_e, bd9_e, bd10_e, bd12_e, X8_isLiveOne_e, if_pos hk, i1, s7, s0, z2, l8]
        rw [hal]
  · refine ⟨-2, work, reb, al, mc, rc, built, laid, live, mem, rmem, words, size, list, moved, ?_, ?_, h, Or.inl ⟨rfl, rfl, rfl⟩⟩
    · simp (disch := omega) only [cLt_t, cLt_f, cEq_t, cEq_f, cLtL_t, cLtL_f, cEqL_t, cEqL_f, cR_t, cRL_t, cZ_t, cN_t, cCp_t, rdA_t, ob_e, bd1_e, bd2_e, bd3_e, bd4_e, bd5_e, bd6_e, bd7_e, bd8_e, bd9_e, bd10_e, bd12_e, X3_isAlive_e, if_neg hk]
    · simp (disch := omega) only [cLt_t, cLt_f, cEq_t, cEq_f, cLtL_t, cLtL_f, cEqL_t, cEqL_f, cR_t, cRL_t, cZ_t, cN_t, cCp_t, rdA_t, ob_e, bd1_e, bd2_e, bd3_e, bd4_e, bd5_e, bd6_e, bd7_e, bd8_e, bd9_e, bd10_e, bd12_e, X8_isLiveOne_e, if_neg hk]
theorem op_addKeyword {t : Nat} {on bl gv sl rep al mc rc work built laid n w th : Int} {buf len bytes wt live str mem rmem words size list moved : Int → Int} (h : IV t on bl gv sl rep al mc rc buf len bytes wt live str mem rmem words size list) (h3 : -2147483648 ≤ n) (h4 : n < 2147483648) (h5 : -2147483648 ≤ w) (h6 : w < 2147483648) :
    ∃ r work2 bl2 gv2 al2 mc2 built2 laid2 bytes2 len2 wt2 live2 mem2 words2 size2 list2 moved2, s_X7_addKeyword work on bl buf gv al bytes len wt live mc mem built sl str words n w = some (r, work2, bl2, gv2, al2, bytes2, len2, wt2, live2, mc2, mem2, built2, words2) ∧ s_X8_addKeyword th bl gv on work laid buf len bytes wt live size list moved n w = some (r, 0, bl2, gv2, work2, laid2, len2, bytes2, wt2, live2, size2, list2, moved2) ∧ IV t on bl2 gv2 sl rep al2 mc2 rc buf len2 bytes2 wt2 live2 str mem2 rmem words2 size2 list2 ∧ ((gv2 = gv ∧ len2 = len ∧ bytes2 = bytes ∧ live2 = live ∧ built2 = built ∧ laid2 = laid) ∨ (built2 = 0 ∧ laid2 = 0)) := by
  obtain ⟨a1, a2, a3, a4, a5, a6, a7, a8, a9, b1, b2, b3, b4, b5⟩ := id h
  have hg0 := a4.1
  have hg := a4.2.1
  have hcr := a7.rg
  have d1 := a7.1
  have d2 := a7.2.1
  have hT := rb_of a3
  have hclr : s_X1_clear 200 bl = some 0 := rfl
  have hIV0 : IV t on 0 gv sl rep al mc rc buf len bytes wt live str mem rmem words size list := ⟨a1, by omega, a3, a4, a5, a6, a7, a8, a9, b1, b2, b3, b4, b5⟩
  unfold s_X7_addKeyword s_X8_addKeyword
  by_cases hn : 0 ≤ n ∧ n ≤ bl
  · by_cases hw : 1 ≤ w ∧ w ≤ 99
    · obtain ⟨x1, x2, x3⟩ := X7_isKeywordText_e (bl := bl) (n := n) a2.1 a2.2 hT hn.1 hn.2
      obtain ⟨y1, y2, y3⟩ := X8_isText_e (n := n) hT hn.1 (by omega)
      have exy := BB_eq x3 y3 Iff.rfl
      subst exy
      by_cases hx : x1 = 1
      · have hX : TX buf n := by rcases x3 with ⟨-, q⟩ | ⟨q, -⟩; exact q; omega
        obtain ⟨f, f1, f2⟩ := X3_findAlive_e (m := 200) (tb := buf) (tl := bl) (n := n) a4 a1.1 a1.2 (by omega) a2.1 (by omega) (fun j a b => hT j a (by omega)) hn.1 hn.2
        obtain ⟨f', g1, g2⟩ := X8_found_e (buf := buf) (n := n) a4 a1.1 a1.2 hn.1 (by omega) (fun j a b => hT j a (by omega))
        have ef := f2.uniq g2
        subst ef
        have hfr := f2.rg hg0
        have l8 := X8_lives_e hg0 hg (fun k a b => (a4.2.2 k a b).2.2.2.2.1)
        by_cases hf : f = -1
        · have hno : ∀ k, 0 ≤ k → k < gv → ¬ PB on n len bytes live buf k := by rcases f2 with ⟨-, q⟩ | ⟨q, -⟩; exact q; omega
          by_cases hful : al < 40 ∧ gv < 120
          · have hrf : s_X7_refusalOf on bl buf gv al bytes len live n = some (-1) := by
              unfold s_X7_refusalOf
              simp (disch := omega) only [cLt_t, cLt_f, cEq_t, cEq_f, cLtL_t, cLtL_f, cEqL_t, cEqL_f, cR_t, cRL_t, cZ_t, cN_t, cCp_t, rdA_t, ob_e, bd1_e, bd2_e, bd3_e, bd4_e, bd5_e, bd6_e, bd7_e, bd8_e, bd9_e, bd10_e, bd12_e, x2, f1]
            obtain ⟨c1, c2, c3, c4, c5⟩ := a7
            have hn1 := hX.1
            have hn2 := hX.2.1
            have e0 := X3_give_e (gv := gv) (al := al) (bl := bl) (n := n) (w := w) (len := len) (bytes := bytes) (wt := wt) (live := live) (buf := buf) hg0 hful.2 a2.1 a2.2 hX.1 hX.2.1 hn.2
            have e1 := X0_insert_e (c := mc) (k := gv) (mem := mem) (by omega) (by omega)
            obtain ⟨words2, w1, w2⟩ := X7_noteAllMatchesOf_e (w := w) a4 hful.2 hX hw.1 hw.2 a1.1 a1.2 b2.1 b2.2 (rb_of b3) b4
            have hfor : s_X6_forget built = some 0 := rfl
            have e2 := X8_addKeyword_115_e (gv := gv) (n := n) (bytes := bytes) (buf := buf) hg0 hful.2 hX.1 hX.2.1
            obtain ⟨size1, list1, moved1, i1, i2, i3, i4⟩ := X8_inserts_e (o := 0) (k := gv) (work := work) (moved := moved) (Or.inl rfl) (show 0 ≤ mc by omega) (by omega) a9
            have hB7 : BK 7 rc rmem size1 list1 := b1.other (Or.inr ⟨rfl, rfl⟩) (by omega) (by omega) i3 i4
            have hM2 : MB (gv + 1) (mc + 1) (upA mem mc gv) := fun i x y => by
              by_cases z : i = mc
              · rw [z, upA_s]; omega
              · rw [upA_n z]; have := a8 i x (by omega); omega
            have hal : al + 1 = cntL (upA live gv 1) (gv + 1).toNat := by
              rw [show (gv + 1).toNat = gv.toNat + 1 by omega, cntL_succ]
              rw [show ((gv.toNat : Nat) : Int) = gv by omega, upA_s, if_neg (by omega), cntL_up (by omega)]
              omega
            refine ⟨gv, work + lowb (mc + 1), 0, gv + 1, al + 1, mc + 1, 0, 0, kby bytes gv buf n.toNat, upA len gv n, upA wt gv w, upA live gv 1, upA mem mc gv, words2, size1, list1, moved1, ?_, ?_, ⟨a1, by omega, a3, a4.add hful.2 hX hw.1 hw.2, DSJ.add a4 a5 hn2 (by omega) hno, hal, ⟨by omega, by omega, by omega, by omega, by omega⟩, hM2, i2, hB7, b2, b3, w2, b5⟩, Or.inr ⟨rfl, rfl⟩⟩
            · simp (disch := omega) only [cLt_t, cLt_f, cEq_t, cEq_f, cLtL_t, cLtL_f, cEqL_t, cEqL_f, cR_t, cRL_t, cZ_t, cN_t, cCp_t, rdA_t, ob_e, bd1_e, bd2_e, bd3_e, bd4_e, bd5_e, bd6_e, bd7_e, bd8_e, bd9_e, bd10_e, bd12_e, X7_isBufferPart_e, if_pos hn, hrf, e0, e1, w1, hfor, hclr]
            · have eg : gv + 1 - 1 = gv := by omega
              rw [← eg] at i1
              simp (disch := omega) only [cLt_t, cLt_f, cEq_t, cEq_f, cLtL_t, cLtL_f, cEqL_t, cEqL_f, cR_t, cRL_t, cZ_t, cN_t, cCp_t, rdA_t, ob_e, bd1_e, bd2_e, bd3_e, bd4_e, bd5_e, bd6_e, bd7_e, bd8_e, bd9_e, bd10_e, bd12_e, X8_isIn_e, if_pos hn, if_pos hw, y2, g1, l8, e2, i1]
              rw [eg]
          · have hrf : s_X7_refusalOf on bl buf gv al bytes len live n = some (-6) := by
              unfold s_X7_refusalOf
              by_cases z : al < 40
              · simp (disch := omega) only [cLt_t, cLt_f, cEq_t, cEq_f, cLtL_t, cLtL_f, cEqL_t, cEqL_f, cR_t, cRL_t, cZ_t, cN_t, cCp_t, rdA_t, ob_e, bd1_e, bd2_e, bd3_e, bd4_e, bd5_e, bd6_e, bd7_e, bd8_e, bd9_e, bd10_e, bd12_e, x2, f1]
              · simp (disch := omega) only [cLt_t, cLt_f, cEq_t, cEq_f, cLtL_t, cLtL_f, cEqL_t, cEqL_f, cR_t, cRL_t, cZ_t, cN_t, cCp_t, rdA_t, ob_e, bd1_e, bd2_e, bd3_e, bd4_e, bd5_e, bd6_e, bd7_e, bd8_e, bd9_e, bd10_e, bd12_e, x2, f1]
            refine ⟨-6, work, 0, gv, al, mc, built, laid, bytes, len, wt, live, mem, words, size, list, moved, ?_, ?_, hIV0, Or.inl ⟨rfl, rfl, rfl, rfl, rfl, rfl⟩⟩
            · simp (disch := omega) only [cLt_t, cLt_f, cEq_t, cEq_f, cLtL_t, cLtL_f, cEqL_t, cEqL_f, cR_t, cRL_t, cZ_t, cN_t, cCp_t, rdA_t, ob_e, bd1_e, bd2_e, bd3_e, bd4_e, bd5_e, bd6_e, bd7_e, bd8_e, bd9_e, bd10_e, bd12_e, X7_isBufferPart_e, if_pos hn, hrf, hclr]
            · have := a7.2.1
              by_cases z : cntL live gv.toNat = 40
              · simp (disch := omega) only [cLt_t, cLt_f, cEq_t, cEq_f, cLtL_t, cLtL_f, cEqL_t, cEqL_f, cR_t, cRL_t, cZ_t, cN_t, cCp_t, rdA_t, ob_e, bd1_e, bd2_e, bd3_e, bd4_e, bd5_e, bd6_e, bd7_e, bd8_e, bd9_e, bd10_e, bd12_e, X8_isIn_e, if_pos hn, if_pos hw, y2, g1, l8]
              · simp (disch := omega) only [cLt_t, cLt_f, cEq_t, cEq_f, cLtL_t, cLtL_f, cEqL_t, cEqL_f, cR_t, cRL_t, cZ_t, cN_t, cCp_t, rdA_t, ob_e, bd1_e, bd2_e, bd3_e, bd4_e, bd5_e, bd6_e, bd7_e, bd8_e, bd9_e, bd10_e, bd12_e, X8_isIn_e, if_pos hn, if_pos hw, y2, g1, l8]
        · have hrf : s_X7_refusalOf on bl buf gv al bytes len live n = some (-5) := by
            unfold s_X7_refusalOf
            simp (disch := omega) only [cLt_t, cLt_f, cEq_t, cEq_f, cLtL_t, cLtL_f, cEqL_t, cEqL_f, cR_t, cRL_t, cZ_t, cN_t, cCp_t, rdA_t, ob_e, bd1_e, bd2_e, bd3_e, bd4_e, bd5_e, bd6_e, bd7_e, bd8_e, bd9_e, bd10_e, bd12_e, x2, f1]
          refine ⟨-5, work, 0, gv, al, mc, built, laid, bytes, len, wt, live, mem, words, size, list, moved, ?_, ?_, hIV0, Or.inl ⟨rfl, rfl, rfl, rfl, rfl, rfl⟩⟩
          · simp (disch := omega) only [cLt_t, cLt_f, cEq_t, cEq_f, cLtL_t, cLtL_f, cEqL_t, cEqL_f, cR_t, cRL_t, cZ_t, cN_t, cCp_t, rdA_t, ob_e, bd1_e, bd2_e, bd3_e, bd4_e, bd5_e, bd6_e, bd7_e, bd8_e, bd9_e, bd10_e, bd12_e, X7_isBufferPart_e, if_pos hn, hrf, hclr]
          · simp (disch := omega) only [cLt_t, cLt_f, cEq_t, cEq_f, cLtL_t, cLtL_f, cEqL_t, cEqL_f, cR_t, cRL_t, cZ_t, cN_t, cCp_t, rdA_t, ob_e, bd1_e, bd2_e, bd3_e, bd4_e, bd5_e, bd6_e, bd7_e, bd8_e, bd9_e, bd10_e, bd12_e, X8_isIn_e, if_pos hn, if_pos hw, y2, g1]
      · have hx0 : x1 = 0 := by have := BB_rg x3; omega
        have hrf : s_X7_refusalOf on bl buf gv al bytes len live n = some (-4) := by
          unfold s_X7_refusalOf
          simp (disch := omega) only [cLt_t, cLt_f, cEq_t, cEq_f, cLtL_t, cLtL_f, cEqL_t, cEqL_f, cR_t, cRL_t, cZ_t, cN_t, cCp_t, rdA_t, ob_e, bd1_e, bd2_e, bd3_e, bd4_e, bd5_e, bd6_e, bd7_e, bd8_e, bd9_e, bd10_e, bd12_e, x2]
        refine ⟨-4, work, 0, gv, al, mc, built, laid, bytes, len, wt, live, mem, words, size, list, moved, ?_, ?_, hIV0, Or.inl ⟨rfl, rfl, rfl, rfl, rfl, rfl⟩⟩
        · simp (disch := omega) only [cLt_t, cLt_f, cEq_t, cEq_f, cLtL_t, cLtL_f, cEqL_t, cEqL_f, cR_t, cRL_t, cZ_t, cN_t, cCp_t, rdA_t, ob_e, bd1_e, bd2_e, bd3_e, bd4_e, bd5_e, bd6_e, bd7_e, bd8_e, bd9_e, bd10_e, bd12_e, X7_isBufferPart_e, if_pos hn, hrf, hclr]
        · simp (disch := omega) only [cLt_t, cLt_f, cEq_t, cEq_f, cLtL_t, cLtL_f, cEqL_t, cEqL_f, cR_t, cRL_t, cZ_t, cN_t, cCp_t, rdA_t, ob_e, bd1_e, bd2_e, bd3_e, bd4_e, bd5_e, bd6_e, bd7_e, bd8_e, bd9_e, bd10_e, bd12_e, X8_isIn_e, if_pos hn, if_pos hw, y2]
    · refine ⟨-3, work, bl, gv, al, mc, built, laid, bytes, len, wt, live, mem, words, size, list, moved, ?_, ?_, h, Or.inl ⟨rfl, rfl, rfl, rfl, rfl, rfl⟩⟩
      · by_cases z : w < 1
        · simp (disch := omega) only [cLt_t, cLt_f, cEq_t, cEq_f, cLtL_t, cLtL_f, cEqL_t, cEqL_f, cR_t, cRL_t, cZ_t, cN_t, cCp_t, rdA_t, ob_e, bd1_e, bd2_e, bd3_e, bd4_e, bd5_e, bd6_e, bd7_e, bd8_e, bd9_e, bd10_e, bd12_e, X7_isBufferPart_e, if_pos hn]
        · simp (disch := omega) only [cLt_t, cLt_f, cEq_t, cEq_f, cLtL_t, cLtL_f, cEqL_t, cEqL_f, cR_t, cRL_t, cZ_t, cN_t, cCp_t, rdA_t, ob_e, bd1_e, bd2_e, bd3_e, bd4_e, bd5_e, bd6_e, bd7_e, bd8_e, bd9_e, bd10_e, bd12_e, X7_isBufferPart_e, if_pos hn]
      · simp (disch := omega) only [cLt_t, cLt_f, cEq_t, cEq_f, cLtL_t, cLtL_f, cEqL_t, cEqL_f, cR_t, cRL_t, cZ_t, cN_t, cCp_t, rdA_t, ob_e, bd1_e, bd2_e, bd3_e, bd4_e, bd5_e, bd6_e, bd7_e, bd8_e, bd9_e, bd10_e, bd12_e, X8_isIn_e, if_pos hn, if_neg hw]
  · refine ⟨-3, work, bl, gv, al, mc, built, laid, bytes, len, wt, live, mem, words, size, list, moved, ?_, ?_, h, Or.inl ⟨rfl, rfl, rfl, rfl, rfl, rfl⟩⟩
    · simp (disch := omega) only [cLt_t, cLt_f, cEq_t, cEq_f, cLtL_t, cLtL_f, cEqL_t, cEqL_f, cR_t, cRL_t, cZ_t, cN_t, cCp_t, rdA_t, ob_e, bd1_e, bd2_e, bd3_e, bd4_e, bd5_e, bd6_e, bd7_e, bd8_e, bd9_e, bd10_e, bd12_e, X7_isBufferPart_e, if_neg hn]
    · simp (disch := omega) only [cLt_t, cLt_f, cEq_t, cEq_f, cLtL_t, cLtL_f, cEqL_t, cEqL_f, cR_t, cRL_t, cZ_t, cN_t, cCp_t, rdA_t, ob_e, bd1_e, bd2_e, bd3_e, bd4_e, bd5_e, bd6_e, bd7_e, bd8_e, bd9_e, bd10_e, bd12_e, X8_isIn_e, if_neg hn]
theorem gb_zero {b : Int} (h1 : 0 ≤ b) (h2 : b < 8) : gb 0 b = 0 := by
  have z : ∀ b : Fin 8, gb 0 (b.val : Int) = 0 := by decide +kernel
  obtain ⟨n, rfl⟩ := Int.eq_ofNat_of_zero_le h1
  exact z ⟨n, by omega⟩
theorem X5_clear_e {words : Int → Int} : ∃ words2, s_X5_clear words = some words2 ∧ ∀ p l, 0 ≤ p → p < 600 → 1 ≤ l → l ≤ 16 → mt words2 p l = -1 := by
  have Z := loopR (fun fu (st : (Int → Int) × Int) => s_J7_fill_d0a16_6 1200 fu st.1 0 st.2 ((1200 : Nat) : Int)) (fun st => (1200 - st.2).toNat) (fun st => 0 ≤ st.2 ∧ st.2 ≤ 1200 ∧ ∀ q, 0 ≤ q → q < st.2 → st.1 q = 0) (fun r => ∀ q, 0 ≤ q → q < 1200 → r q = 0) ?_ FU (words, 0) ⟨Int.le_refl _, by show (0 : Int) ≤ 1200; omega, fun q a b => by have : q < 0 := b; omega⟩ (FU_lt (by show ((1200 : Int) - 0).toNat < _; omega))
  · obtain ⟨w2, e1, e2⟩ := Z
    have e1 : s_J7_fill_d0a16_6 1200 FU words 0 0 ((1200 : Nat) : Int) = some w2 := e1
    refine ⟨w2, ?_, fun p l a b c d => ?_⟩
    · unfold s_X5_clear s_J7_fill_d0a16
      simp (disch := omega) only [cLt_t, cLt_f, cEq_t, cEq_f, cLtL_t, cLtL_f, cEqL_t, cEqL_f, cR_t, cRL_t, cZ_t, cN_t, cCp_t, rdA_t, ob_e, bd1_e, bd2_e, bd3_e, bd4_e, bd5_e, bd6_e, bd7_e, bd8_e, bd9_e, bd10_e, bd12_e, e1]
    · unfold mt
      rw [e2 _ (by omega) (by omega), gb_zero (by omega) (by omega)]
      rfl
  · intro fu ⟨wz, l⟩ ⟨g1, g2, g3⟩
    have g1 : 0 ≤ l := g1
    have g2 : l ≤ 1200 := g2
    have g3 : ∀ q, 0 ≤ q → q < l → wz q = 0 := g3
    simp only [s_J7_fill_d0a16_6_s]
    by_cases h : l < 1200
    · right
      refine ⟨(upA wz l 0, l + 1), ⟨by show 0 ≤ l + 1; omega, by show l + 1 ≤ 1200; omega, fun q a b => ?_⟩, by show ((1200 : Int) - (l + 1)).toNat < (1200 - l).toNat; omega, ?_⟩
      · show upA wz l 0 q = 0
        have b : q < l + 1 := b
        by_cases z : q = l
        · rw [z, upA_s]
        · rw [upA_n z]; exact g3 q a (by omega)
      · simp (disch := omega) only [cLt_t, cLt_f, cEq_t, cEq_f, cLtL_t, cLtL_f, cEqL_t, cEqL_f, cR_t, cRL_t, cZ_t, cN_t, cCp_t, rdA_t, ob_e, bd1_e, bd2_e, bd3_e, bd4_e, bd5_e, bd6_e, bd7_e, bd8_e, bd9_e, bd10_e, bd12_e]
    · left
      exact ⟨wz, by simp (disch := omega) only [cLt_t, cLt_f, cEq_t, cEq_f, cLtL_t, cLtL_f, cEqL_t, cEqL_f, cR_t, cRL_t, cZ_t, cN_t, cCp_t, rdA_t, ob_e, bd1_e, bd2_e, bd3_e, bd4_e, bd5_e, bd6_e, bd7_e, bd8_e, bd9_e, bd10_e, bd12_e], fun q a b => g3 q a (by omega)⟩
theorem op_resetStream {t : Nat} {on bl gv sl rep al mc rc th rs : Int} {buf len bytes wt live str mem rmem words size list : Int → Int} (h : IV t on bl gv sl rep al mc rc buf len bytes wt live str mem rmem words size list) : ∃ words2, s_X7_resetStream rep sl words rs = some (sl, 0, 0, words2, 0) ∧ s_X8_resetStream th sl rep = some (sl, 0, 0, 0) ∧ IV t on bl gv 0 0 al mc rc buf len bytes wt live str mem rmem words2 size list := by
  obtain ⟨a1, a2, a3, a4, a5, a6, a7, a8, a9, b1, b2, b3, b4, b5⟩ := h
  obtain ⟨words2, w1, w2⟩ := X5_clear_e (words := words)
  have c1 : s_X1_clear 600 sl = some 0 := rfl
  have c2 : s_X4_clear 300 rs = some 0 := rfl
  refine ⟨words2, ?_, rfl, ⟨a1, a2, a3, a4, a5, a6, a7, a8, a9, b1, by omega, b3, fun p l a b c d => ?_, by omega⟩⟩
  · unfold s_X7_resetStream
    simp (disch := omega) only [cLt_t, cLt_f, cEq_t, cEq_f, cLtL_t, cLtL_f, cEqL_t, cEqL_f, cR_t, cRL_t, cZ_t, cN_t, cCp_t, rdA_t, ob_e, bd1_e, bd2_e, bd3_e, bd4_e, bd5_e, bd6_e, bd7_e, bd8_e, bd9_e, bd10_e, bd12_e, c1, w1, c2]
  · rw [w2 p l a b c d]
    refine Or.inl ⟨rfl, fun k hk hl hm => ?_⟩
    have := hm.2.1
    omega
