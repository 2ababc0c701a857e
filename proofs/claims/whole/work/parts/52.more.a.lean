/-! ===== what the law's calls still want of the pure side ===== -/
def NN2 (f : Int → Int) : Prop := ∀ j, 0 ≤ j → j < 200 → 0 ≤ f j ∧ f j < 256
theorem NN2.up {f : Int → Int} {k v : Int} (h : NN2 f) (h1 : 0 ≤ v) (h2 : v ≤ 255) : NN2 (upA f k v) := fun j a b => by
  by_cases c : j = k
  · rw [c, upA_s]; omega
  · rw [upA_n c]; exact h j a b
theorem appendFour_nn {bl a : Int} {buf : Int → Int} (h1 : 0 ≤ bl) (h2 : bl ≤ 196) (h : NN2 buf) : ∃ b2, s_X7_appendFour bl buf a = some (bl + 4, b2) ∧ NN2 b2 :=
  ⟨_, X7_appendFour_e h1 h2, (((h.up (byA_rg a 24).1 (byA_rg a 24).2).up (byA_rg a 16).1 (byA_rg a 16).2).up (byA_rg a 8).1 (byA_rg a 8).2).up (byA_rg a 0).1 (byA_rg a 0).2⟩
theorem op_appendBytes2 {bl th a b c d e : Int} {buf : Int → Int} (h1 : 0 ≤ bl) (h2 : bl ≤ 200) (hT : NN2 buf) : ∃ r bl2 buf2, s_X7_appendBytes bl buf a b c d e = some (r, bl2, buf2) ∧ s_X8_appendBytes th bl buf a b c d e = some (r, 0, bl2, buf2) ∧ 0 ≤ bl2 ∧ bl2 ≤ 200 ∧ NN2 buf2 := by
  obtain ⟨r, bl2, buf2, a1, a2, a3, a4, a5⟩ := op_appendBytes (th := th) (a := a) (b := b) (c := c) (d := d) (e := e) h1 h2 (rb_of hT)
  refine ⟨r, bl2, buf2, a1, a2, a3, a4, ?_⟩
  by_cases k : 180 < bl
  · have e1 : s_X7_appendBytes bl buf a b c d e = some (-6, bl, buf) := by
      unfold s_X7_appendBytes
      simp (disch := omega) only [cLt_t, cLt_f, cEq_t, cEq_f, cLtL_t, cLtL_f, cEqL_t, cEqL_f, cR_t, cRL_t, cZ_t, cN_t, cCp_t, rdA_t, ob_e, bd1_e, bd2_e, bd3_e, bd4_e, bd5_e, bd6_e, bd7_e, bd8_e, bd9_e, bd10_e, bd12_e]
    rw [e1] at a1
    cases a1
    exact hT
  · obtain ⟨b1, p1, q1⟩ := appendFour_nn (bl := bl) (a := a) h1 (by omega) hT
    obtain ⟨b2, p2, q2⟩ := appendFour_nn (bl := bl + 4) (a := b) (by omega) (by omega) q1
    obtain ⟨b3, p3, q3⟩ := appendFour_nn (bl := bl + 4 + 4) (a := c) (by omega) (by omega) q2
    obtain ⟨b4, p4, q4⟩ := appendFour_nn (bl := bl + 4 + 4 + 4) (a := d) (by omega) (by omega) q3
    obtain ⟨b5, p5, q5⟩ := appendFour_nn (bl := bl + 4 + 4 + 4 + 4) (a := e) (by omega) (by omega) q4
    have e1 : s_X7_appendBytes bl buf a b c d e = some (bl + 4 + 4 + 4 + 4 + 4, bl + 4 + 4 + 4 + 4 + 4, b5) := by
      unfold s_X7_appendBytes
      simp (disch := omega) only [cLt_t, cLt_f, cEq_t, cEq_f, cLtL_t, cLtL_f, cEqL_t, cEqL_f, cR_t, cRL_t, cZ_t, cN_t, cCp_t, rdA_t, ob_e, bd1_e, bd2_e, bd3_e, bd4_e, bd5_e, bd6_e, bd7_e, bd8_e, bd9_e, bd10_e, bd12_e, p1, p2, p3, p4, p5]
    rw [e1] at a1
    cases a1
    exact q5
theorem IV.mono {t : Nat} {on bl gv sl rep al mc rc : Int} {buf len bytes wt live str mem rmem words size list : Int → Int} (h : IV t on bl gv sl rep al mc rc buf len bytes wt live str mem rmem words size list) : IV (t + 1) on bl gv sl rep al mc rc buf len bytes wt live str mem rmem words size list := by
  obtain ⟨a1, a2, a3, a4, a5, a6, a7, a8, a9, b1, b2, b3, b4, b5⟩ := h
  exact ⟨a1, a2, a3, a4, a5, a6, a7, a8, a9, b1, b2, b3, b4, b5.1, by have := b5.2; omega⟩
/-- no keyword lives: folding matters to nothing -/
theorem cntL_zero {live : Int → Int} : ∀ n : Nat, cntL live n = 0 → ∀ k, 0 ≤ k → k < (n : Int) → live k = 0 := by
  intro n
  induction n with
  | zero => intro _ k a b; omega
  | succ n ih =>
    intro h k a b
    rw [cntL_succ] at h
    have := cntL_rg live n
    by_cases c : live (n : Int) = 0
    · rw [if_pos c] at h
      by_cases d : k = n
      · rw [d]; exact c
      · exact ih (by omega) k a (by omega)
    · rw [if_neg c] at h; omega
theorem IV.fold {t : Nat} {on on2 bl gv sl rep al mc rc : Int} {buf len bytes wt live str mem rmem words size list : Int → Int} (h : IV t on bl gv sl rep al mc rc buf len bytes wt live str mem rmem words size list) (h1 : 0 ≤ on2 ∧ on2 ≤ 1) (hc : cntL live gv.toNat = 0) : IV t on2 bl gv sl rep al mc rc buf len bytes wt live str mem rmem words size list := by
  obtain ⟨a1, a2, a3, a4, a5, a6, a7, a8, a9, b1, b2, b3, b4, b5⟩ := h
  have no : ∀ k, ¬ LV gv live k := fun k q => by
    have := cntL_zero gv.toNat hc k q.1 (by have := q.2.1; omega)
    have := q.2.2
    omega
  refine ⟨h1, a2, a3, a4, fun a b q => absurd q (no a), a6, a7, a8, a9, b1, b2, b3, fun p l u v w z => ?_, b5⟩
  rcases b4 p l u v w z with q | q
  · exact Or.inl ⟨q.1, fun k r => absurd r (no k)⟩
  · exact absurd q.2.1 (no _)
theorem SI.fold {on on2 gv built laid al ws : Int} {len bytes live area whole : Int → Int} (h : SI on gv len bytes live built laid al area ws whole) (hc : cntL live gv.toNat = 0) : SI on2 gv len bytes live built laid al area ws whole := by
  rcases h with h | ⟨h1, h2, h3, h4, h5, h6, h7⟩
  · exact Or.inl h
  · refine Or.inr ⟨h1, h2, h3, h4, h5, h6, fun k q => ?_⟩
    have := cntL_zero gv.toNat hc k q.1 (by have := q.2.1; omega)
    have := q.2.2
    omega
theorem SI.keep {on gv gv2 built laid built2 laid2 al ws : Int} {len bytes live len2 bytes2 live2 area whole : Int → Int} (h : SI on gv len bytes live built laid al area ws whole) (e : (gv2 = gv ∧ len2 = len ∧ bytes2 = bytes ∧ live2 = live ∧ built2 = built ∧ laid2 = laid) ∨ (built2 = 0 ∧ laid2 = 0)) : SI on gv2 len2 bytes2 live2 built2 laid2 al area ws whole := by
  rcases e with ⟨e1, e2, e3, e4, e5, e6⟩ | e
  · rw [e1, e2, e3, e4, e5, e6]; exact h
  · exact Or.inl e
