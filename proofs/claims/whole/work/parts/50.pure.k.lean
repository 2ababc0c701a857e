theorem byt24 (u : Int32) : (u.toUInt32 >>> ((iI 24).toUInt32 &&& Int32.toUInt32 31)).toInt32 &&& iI 255 = (u >>> (iI 24 &&& 31)) &&& iI 255 := by
  apply Int32.toBitVec_inj.mp
  have e1 : ((u.toUInt32 >>> ((iI 24).toUInt32 &&& Int32.toUInt32 31)).toInt32 &&& iI 255).toBitVec = (u.toBitVec >>> 24) &&& 255#32 := rfl
  have e2 : ((u >>> (iI 24 &&& 31)) &&& iI 255).toBitVec = (u.toBitVec.sshiftRight 24) &&& 255#32 := rfl
  rw [e1, e2]; exact bv_and255 _ _ (by decide)
theorem byt16 (u : Int32) : (u.toUInt32 >>> ((iI 16).toUInt32 &&& Int32.toUInt32 31)).toInt32 &&& iI 255 = (u >>> (iI 16 &&& 31)) &&& iI 255 := by
  apply Int32.toBitVec_inj.mp
  have e1 : ((u.toUInt32 >>> ((iI 16).toUInt32 &&& Int32.toUInt32 31)).toInt32 &&& iI 255).toBitVec = (u.toBitVec >>> 16) &&& 255#32 := rfl
  have e2 : ((u >>> (iI 16 &&& 31)) &&& iI 255).toBitVec = (u.toBitVec.sshiftRight 16) &&& 255#32 := rfl
  rw [e1, e2]; exact bv_and255 _ _ (by decide)
theorem byt8 (u : Int32) : (u.toUInt32 >>> ((iI 8).toUInt32 &&& Int32.toUInt32 31)).toInt32 &&& iI 255 = (u >>> (iI 8 &&& 31)) &&& iI 255 := by
  apply Int32.toBitVec_inj.mp
  have e1 : ((u.toUInt32 >>> ((iI 8).toUInt32 &&& Int32.toUInt32 31)).toInt32 &&& iI 255).toBitVec = (u.toBitVec >>> 8) &&& 255#32 := rfl
  have e2 : ((u >>> (iI 8 &&& 31)) &&& iI 255).toBitVec = (u.toBitVec.sshiftRight 8) &&& 255#32 := rfl
  rw [e1, e2]; exact bv_and255 _ _ (by decide)
theorem byt0 (u : Int32) : (u.toUInt32 >>> ((iI 0).toUInt32 &&& Int32.toUInt32 31)).toInt32 &&& iI 255 = (u >>> (iI 0 &&& 31)) &&& iI 255 := by
  apply Int32.toBitVec_inj.mp
  have e1 : ((u.toUInt32 >>> ((iI 0).toUInt32 &&& Int32.toUInt32 31)).toInt32 &&& iI 255).toBitVec = (u.toBitVec >>> 0) &&& 255#32 := rfl
  have e2 : ((u >>> (iI 0 &&& 31)) &&& iI 255).toBitVec = (u.toBitVec.sshiftRight 0) &&& 255#32 := rfl
  rw [e1, e2]; exact bv_and255 _ _ (by decide)
theorem and255_rg (z : Int32) : 0 ≤ (z &&& iI 255).toInt ∧ (z &&& iI 255).toInt ≤ 255 := by
  have h := bv_rg z.toBitVec
  have e : (z &&& iI 255).toInt = ((z.toBitVec &&& 255#32).toNat : Int) := BitVec.toInt_eq_toNat_of_lt (x := z.toBitVec &&& 255#32) (by omega)
  omega
/-- one byte of an int -/
def byA (a s : Int) : Int := iAnd (iShr a s) 255
theorem byA_rg (a s : Int) : 0 ≤ byA a s ∧ byA a s ≤ 255 := and255_rg _
theorem byA_u24 (a : Int) : iAnd (iUshr a 24) 255 = byA a 24 := by
  unfold byA iAnd iUshr iShr; rw [iI_of, iI_of, byt24]
theorem byA_u16 (a : Int) : iAnd (iUshr a 16) 255 = byA a 16 := by
  unfold byA iAnd iUshr iShr; rw [iI_of, iI_of, byt16]
theorem byA_u8 (a : Int) : iAnd (iUshr a 8) 255 = byA a 8 := by
  unfold byA iAnd iUshr iShr; rw [iI_of, iI_of, byt8]
theorem byA_u0 (a : Int) : iAnd (iUshr a 0) 255 = byA a 0 := by
  unfold byA iAnd iUshr iShr; rw [iI_of, iI_of, byt0]
theorem X1_append_e {m : Nat} {l v : Int} {b : Int → Int} (h1 : 0 ≤ l) (h2 : l < (m : Int)) (h3 : (m : Int) ≤ 100000) : s_X1_append m l b v = some (l + 1, upA b l v) := by
  unfold s_X1_append
  simp (disch := omega) only [cLt_t, cLt_f, cEq_t, cEq_f, cLtL_t, cLtL_f, cEqL_t, cEqL_f, cR_t, cRL_t, cZ_t, cN_t, cCp_t, rdA_t, ob_e, bd1_e, bd2_e, bd3_e, bd4_e, bd5_e, bd6_e, bd7_e, bd8_e, bd9_e, bd10_e, bd12_e]
theorem FU_split : ∃ n, FU = n + 1 + 1 + 1 + 1 + 1 := ⟨FU - 5, by have := FU_lt (n := 5) (by omega); omega⟩
theorem X7_appendFour_e {bl a : Int} {buf : Int → Int} (h1 : 0 ≤ bl) (h2 : bl ≤ 196) : s_X7_appendFour bl buf a = some (bl + 4, upA (upA (upA (upA buf bl (byA a 24)) (bl + 1) (byA a 16)) (bl + 2) (byA a 8)) (bl + 3) (byA a 0)) := by
  unfold s_X7_appendFour
  have e : s_X7_appendFour_3 FU bl buf a 24 = some (bl + 4, upA (upA (upA (upA buf bl (byA a 24)) (bl + 1) (byA a 16)) (bl + 2) (byA a 8)) (bl + 3) (byA a 0)) := by
    obtain ⟨n, hn⟩ := FU_split
    rw [hn, s_X7_appendFour_3_s]
    simp (disch := omega) only [cLt_t, cLt_f, cEq_t, cEq_f, cLtL_t, cLtL_f, cEqL_t, cEqL_f, cR_t, cRL_t, cZ_t, cN_t, cCp_t, rdA_t, ob_e, bd1_e, bd2_e, bd3_e, bd4_e, bd5_e, bd6_e, bd7_e, bd8_e, bd9_e, bd10_e, bd12_e, byA_u24, X1_append_e]
    rw [s_X7_appendFour_3_s, show (24 : Int) + -8 = 16 from rfl]
    simp (disch := omega) only [cLt_t, cLt_f, cEq_t, cEq_f, cLtL_t, cLtL_f, cEqL_t, cEqL_f, cR_t, cRL_t, cZ_t, cN_t, cCp_t, rdA_t, ob_e, bd1_e, bd2_e, bd3_e, bd4_e, bd5_e, bd6_e, bd7_e, bd8_e, bd9_e, bd10_e, bd12_e, byA_u16, X1_append_e]
    rw [s_X7_appendFour_3_s, show (16 : Int) + -8 = 8 from rfl]
    simp (disch := omega) only [cLt_t, cLt_f, cEq_t, cEq_f, cLtL_t, cLtL_f, cEqL_t, cEqL_f, cR_t, cRL_t, cZ_t, cN_t, cCp_t, rdA_t, ob_e, bd1_e, bd2_e, bd3_e, bd4_e, bd5_e, bd6_e, bd7_e, bd8_e, bd9_e, bd10_e, bd12_e, byA_u8, X1_append_e]
    rw [s_X7_appendFour_3_s, show (8 : Int) + -8 = 0 from rfl]
    simp (disch := omega) only [cLt_t, cLt_f, cEq_t, cEq_f, cLtL_t, cLtL_f, cEqL_t, cEqL_f, cR_t, cRL_t, cZ_t, cN_t, cCp_t, rdA_t, ob_e, bd1_e, bd2_e, bd3_e, bd4_e, bd5_e, bd6_e, bd7_e, bd8_e, bd9_e, bd10_e, bd12_e, byA_u0, X1_append_e]
    rw [s_X7_appendFour_3_s, show (0 : Int) + -8 = -8 from rfl]
    simp (disch := omega) only [cLt_t, cLt_f, cEq_t, cEq_f, cLtL_t, cLtL_f, cEqL_t, cEqL_f, cR_t, cRL_t, cZ_t, cN_t, cCp_t, rdA_t, ob_e, bd1_e, bd2_e, bd3_e, bd4_e, bd5_e, bd6_e, bd7_e, bd8_e, bd9_e, bd10_e, bd12_e]
    rw [show bl + 1 + 1 = bl + 2 by omega, show bl + 2 + 1 = bl + 3 by omega, show bl + 3 + 1 = bl + 4 by omega]
  simp (disch := omega) only [cLt_t, cLt_f, cEq_t, cEq_f, cLtL_t, cLtL_f, cEqL_t, cEqL_f, cR_t, cRL_t, cZ_t, cN_t, cCp_t, rdA_t, ob_e, bd1_e, bd2_e, bd3_e, bd4_e, bd5_e, bd6_e, bd7_e, bd8_e, bd9_e, bd10_e, bd12_e, e]
/-- the buffer with n of the twenty bytes appended -/
def apn (bl : Int) (buf : Int → Int) (v : Nat → Int) : Nat → (Int → Int)
  | 0 => buf
  | k + 1 => upA (apn bl buf v k) (bl + (k : Int)) (byA (v (k / 4)) (24 - 8 * ((k % 4 : Nat) : Int)))
theorem apn_four {bl : Int} {buf : Int → Int} {v : Nat → Int} (j : Nat) : apn bl buf v (4 * j + 4) = upA (upA (upA (upA (apn bl buf v (4 * j)) (bl + 4 * (j : Int)) (byA (v j) 24)) (bl + 4 * (j : Int) + 1) (byA (v j) 16)) (bl + 4 * (j : Int) + 2) (byA (v j) 8)) (bl + 4 * (j : Int) + 3) (byA (v j) 0) := by
  show upA (upA (upA (upA (apn bl buf v (4 * j)) (bl + ((4 * j : Nat) : Int)) (byA (v (4 * j / 4)) (24 - 8 * ((4 * j % 4 : Nat) : Int)))) (bl + ((4 * j + 1 : Nat) : Int)) (byA (v ((4 * j + 1) / 4)) (24 - 8 * (((4 * j + 1) % 4 : Nat) : Int)))) (bl + ((4 * j + 2 : Nat) : Int)) (byA (v ((4 * j + 2) / 4)) (24 - 8 * (((4 * j + 2) % 4 : Nat) : Int)))) (bl + ((4 * j + 3 : Nat) : Int)) (byA (v ((4 * j + 3) / 4)) (24 - 8 * (((4 * j + 3) % 4 : Nat) : Int))) = _
  rw [show 4 * j / 4 = j by omega, show (4 * j + 1) / 4 = j by omega, show (4 * j + 2) / 4 = j by omega, show (4 * j + 3) / 4 = j by omega,
    show (24 - 8 * ((4 * j % 4 : Nat) : Int)) = 24 by omega, show (24 - 8 * (((4 * j + 1) % 4 : Nat) : Int)) = 16 by omega, show (24 - 8 * (((4 * j + 2) % 4 : Nat) : Int)) = 8 by omega, show (24 - 8 * (((4 * j + 3) % 4 : Nat) : Int)) = 0 by omega,
    show bl + ((4 * j : Nat) : Int) = bl + 4 * (j : Int) by omega, show bl + ((4 * j + 1 : Nat) : Int) = bl + 4 * (j : Int) + 1 by omega, show bl + ((4 * j + 2 : Nat) : Int) = bl + 4 * (j : Int) + 2 by omega, show bl + ((4 * j + 3 : Nat) : Int) = bl + 4 * (j : Int) + 3 by omega]
theorem irem4 : ∀ k : Fin 20, iRem (k.val : Int) 4 = ((k.val % 4 : Nat) : Int) := by decide +kernel
theorem apn_rb {bl : Int} {buf : Int → Int} {v : Nat → Int} (h : RB buf 0 200) : ∀ n, RB (apn bl buf v n) 0 200 := by
  intro n
  induction n with
  | zero => exact h
  | succ n ih =>
    intro j a b
    show -1 ≤ upA (apn bl buf v n) (bl + (n : Int)) _ (0 + j) ∧ upA (apn bl buf v n) (bl + (n : Int)) _ (0 + j) < 256
    by_cases hj : 0 + j = bl + (n : Int)
    · rw [hj, upA_s]
      have := byA_rg (v (n / 4)) (24 - 8 * ((n % 4 : Nat) : Int))
      omega
    · rw [upA_n hj]
      exact ih j a b
theorem op_appendBytes {bl th a b c d e : Int} {buf : Int → Int} (h1 : 0 ≤ bl) (h2 : bl ≤ 200) (hT : RB buf 0 200) : ∃ r bl2 buf2, s_X7_appendBytes bl buf a b c d e = some (r, bl2, buf2) ∧ s_X8_appendBytes th bl buf a b c d e = some (r, 0, bl2, buf2) ∧ 0 ≤ bl2 ∧ bl2 ≤ 200 ∧ RB buf2 0 200 := by
  unfold s_X7_appendBytes s_X8_appendBytes
  by_cases h : 180 < bl
  · exact ⟨-6, bl, buf, by simp (disch := omega) only [cLt_t, cLt_f, cEq_t, cEq_f, cLtL_t, cLtL_f, cEqL_t, cEqL_f, cR_t, cRL_t, cZ_t, cN_t, cCp_t, rdA_t, ob_e, bd1_e, bd2_e, bd3_e, bd4_e, bd5_e, bd6_e, bd7_e, bd8_e, bd9_e, bd10_e, bd12_e], by simp (disch := omega) only [cLt_t, cLt_f, cEq_t, cEq_f, cLtL_t, cLtL_f, cEqL_t, cEqL_f, cR_t, cRL_t, cZ_t, cN_t, cCp_t, rdA_t, ob_e, bd1_e, bd2_e, bd3_e, bd4_e, bd5_e, bd6_e, bd7_e, bd8_e, bd9_e, bd10_e, bd12_e], h1, h2, hT⟩
  · have main := loopR (fun fu (st : Int × (Int → Int) × Int) => s_X8_appendBytes_24 fu st.1 st.2.1 a b c d e st.2.2) (fun st => (20 - st.2.2).toNat) (fun st => 0 ≤ st.2.2 ∧ st.2.2 ≤ 20 ∧ st.1 = bl + st.2.2 ∧ st.2.1 = apn bl buf (fun j => if j = 0 then a else if j = 1 then b else if j = 2 then c else if j = 3 then d else e) st.2.2.toNat) (fun r => r = (bl + 20, apn bl buf (fun j => if j = 0 then a else if j = 1 then b else if j = 2 then c else if j = 3 then d else e) 20)) ?_ FU (bl, buf, 0) ⟨Int.le_refl _, by show (0 : Int) ≤ 20; omega, by show bl = bl + 0; omega, rfl⟩ (FU_lt (by show ((20 : Int) - 0).toNat < _; omega))
    · obtain ⟨r, e1, e2⟩ := main
      subst e2
      have e1 : s_X8_appendBytes_24 FU bl buf a b c d e 0 = some (bl + 20, apn bl buf (fun j => if j = 0 then a else if j = 1 then b else if j = 2 then c else if j = 3 then d else e) 20) := e1
      refine ⟨bl + 20, bl + 20, apn bl buf (fun j => if j = 0 then a else if j = 1 then b else if j = 2 then c else if j = 3 then d else e) 20, ?_, by simp (disch := omega) only [cLt_t, cLt_f, cEq_t, cEq_f, cLtL_t, cLtL_f, cEqL_t, cEqL_f, cR_t, cRL_t, cZ_t, cN_t, cCp_t, rdA_t, ob_e, bd1_e, bd2_e, bd3_e, bd4_e, bd5_e, bd6_e, bd7_e, bd8_e, bd9_e, bd10_e, bd12_e, e1], by omega, by omega, apn_rb hT 20⟩
      have q0 := apn_four (bl := bl) (buf := buf) (v := fun j => if j = 0 then a else if j = 1 then b else if j = 2 then c else if j = 3 then d else e) 0
      have q1 := apn_four (bl := bl) (buf := buf) (v := fun j => if j = 0 then a else if j = 1 then b else if j = 2 then c else if j = 3 then d else e) 1
      have q2 := apn_four (bl := bl) (buf := buf) (v := fun j => if j = 0 then a else if j = 1 then b else if j = 2 then c else if j = 3 then d else e) 2
      have q3 := apn_four (bl := bl) (buf := buf) (v := fun j => if j = 0 then a else if j = 1 then b else if j = 2 then c else if j = 3 then d else e) 3
      have q4 := apn_four (bl := bl) (buf := buf) (v := fun j => if j = 0 then a else if j = 1 then b else if j = 2 then c else if j = 3 then d else e) 4
      have f0 := X7_appendFour_e (bl := bl) (a := a) (buf := buf) (by omega) (by omega)
      have q0 : apn bl buf (fun j => if j = 0 then a else if j = 1 then b else if j = 2 then c else if j = 3 then d else e) 4 = upA (upA (upA (upA buf (bl + 4 * 0) (byA a 24)) (bl + 4 * 0 + 1) (byA a 16)) (bl + 4 * 0 + 2) (byA a 8)) (bl + 4 * 0 + 3) (byA a 0) := q0
      rw [show bl + 4 * 0 = bl by omega] at q0
      rw [← q0] at f0
      have f1 := X7_appendFour_e (bl := bl + 4) (a := b) (buf := apn bl buf (fun j => if j = 0 then a else if j = 1 then b else if j = 2 then c else if j = 3 then d else e) 4) (by omega) (by omega)
      have q1 : apn bl buf (fun j => if j = 0 then a else if j = 1 then b else if j = 2 then c else if j = 3 then d else e) 8 = upA (upA (upA (upA (apn bl buf (fun j => if j = 0 then a else if j = 1 then b else if j = 2 then c else if j = 3 then d else e) 4) (bl + 4 * 1) (byA b 24)) (bl + 4 * 1 + 1) (byA b 16)) (bl + 4 * 1 + 2) (byA b 8)) (bl + 4 * 1 + 3) (byA b 0) := q1
      rw [show bl + 4 * 1 = bl + 4 by omega] at q1
      rw [← q1, show bl + 4 + 4 = bl + 8 by omega] at f1
      have f2 := X7_appendFour_e (bl := bl + 8) (a := c) (buf := apn bl buf (fun j => if j = 0 then a else if j = 1 then b else if j = 2 then c else if j = 3 then d else e) 8) (by omega) (by omega)
      have q2 : apn bl buf (fun j => if j = 0 then a else if j = 1 then b else if j = 2 then c else if j = 3 then d else e) 12 = upA (upA (upA (upA (apn bl buf (fun j => if j = 0 then a else if j = 1 then b else if j = 2 then c else if j = 3 then d else e) 8) (bl + 4 * 2) (byA c 24)) (bl + 4 * 2 + 1) (byA c 16)) (bl + 4 * 2 + 2) (byA c 8)) (bl + 4 * 2 + 3) (byA c 0) := q2
      rw [show bl + 4 * 2 = bl + 8 by omega] at q2
      rw [← q2, show bl + 8 + 4 = bl + 12 by omega] at f2
      have f3 := X7_appendFour_e (bl := bl + 12) (a := d) (buf := apn bl buf (fun j => if j = 0 then a else if j = 1 then b else if j = 2 then c else if j = 3 then d else e) 12) (by omega) (by omega)
      have q3 : apn bl buf (fun j => if j = 0 then a else if j = 1 then b else if j = 2 then c else if j = 3 then d else e) 16 = upA (upA (upA (upA (apn bl buf (fun j => if j = 0 then a else if j = 1 then b else if j = 2 then c else if j = 3 then d else e) 12) (bl + 4 * 3) (byA d 24)) (bl + 4 * 3 + 1) (byA d 16)) (bl + 4 * 3 + 2) (byA d 8)) (bl + 4 * 3 + 3) (byA d 0) := q3
      rw [show bl + 4 * 3 = bl + 12 by omega] at q3
      rw [← q3, show bl + 12 + 4 = bl + 16 by omega] at f3
      have f4 := X7_appendFour_e (bl := bl + 16) (a := e) (buf := apn bl buf (fun j => if j = 0 then a else if j = 1 then b else if j = 2 then c else if j = 3 then d else e) 16) (by omega) (by omega)
      have q4 : apn bl buf (fun j => if j = 0 then a else if j = 1 then b else if j = 2 then c else if j = 3 then d else e) 20 = upA (upA (upA (upA (apn bl buf (fun j => if j = 0 then a else if j = 1 then b else if j = 2 then c else if j = 3 then d else e) 16) (bl + 4 * 4) (byA e 24)) (bl + 4 * 4 + 1) (byA e 16)) (bl + 4 * 4 + 2) (byA e 8)) (bl + 4 * 4 + 3) (byA e 0) := q4
      rw [show bl + 4 * 4 = bl + 16 by omega] at q4
      rw [← q4, show bl + 16 + 4 = bl + 20 by omega] at f4
      simp (disch := omega) only [cLt_t, cLt_f, cEq_t, cEq_f, cLtL_t, cLtL_f, cEqL_t, cEqL_f, cR_t, cRL_t, cZ_t, cN_t, cCp_t, rdA_t, ob_e, bd1_e, bd2_e, bd3_e, bd4_e, bd5_e, bd6_e, bd7_e, bd8_e, bd9_e, bd10_e, bd12_e, f0, f1, f2, f3, f4]
    · intro fu ⟨l, bf, k⟩ ⟨g1, g2, g3, g4⟩
      have g1 : 0 ≤ k := g1
      have g2 : k ≤ 20 := g2
      have g3 : l = bl + k := g3
      have g4 : bf = apn bl buf (fun j => if j = 0 then a else if j = 1 then b else if j = 2 then c else if j = 3 then d else e) k.toNat := g4
      simp only [s_X8_appendBytes_24_s]
      by_cases hk : k < 20
      · right
        obtain ⟨n, rfl⟩ := Int.eq_ofNat_of_zero_le g1
        have hr : iRem (n : Int) 4 = ((n % 4 : Nat) : Int) := irem4 ⟨n, by omega⟩
        have en : (n : Int).toNat = n := by omega
        have es : ((n : Int) + 1).toNat = n + 1 := by omega
        rw [en] at g4
        refine ⟨(l + 1, apn bl buf (fun j => if j = 0 then a else if j = 1 then b else if j = 2 then c else if j = 3 then d else e) (n + 1), (n : Int) + 1), ⟨by show 0 ≤ (n : Int) + 1; omega, by show (n : Int) + 1 ≤ 20; omega, by show l + 1 = bl + ((n : Int) + 1); omega, by show _ = apn _ _ _ ((n : Int) + 1).toNat; rw [es]⟩, by show ((20 : Int) - ((n : Int) + 1)).toNat < (20 - (n : Int)).toNat; omega, ?_⟩
        have ea : apn bl buf (fun j => if j = 0 then a else if j = 1 then b else if j = 2 then c else if j = 3 then d else e) (n + 1) = upA bf l (byA (if n / 4 = 0 then a else if n / 4 = 1 then b else if n / 4 = 2 then c else if n / 4 = 3 then d else e) (24 - 8 * ((n % 4 : Nat) : Int))) := by
          rw [g4, g3]; rfl
        rw [ea]
        by_cases c1 : (n : Int) < 4
        · simp (disch := omega) only [cLt_t, cLt_f, cEq_t, cEq_f, cLtL_t, cLtL_f, cEqL_t, cEqL_f, cR_t, cRL_t, cZ_t, cN_t, cCp_t, rdA_t, ob_e, bd1_e, bd2_e, bd3_e, bd4_e, bd5_e, bd6_e, bd7_e, bd8_e, bd9_e, bd10_e, bd12_e, hr]
          rw [if_pos (show n / 4 = 0 by omega)]; rfl
        · by_cases c2 : (n : Int) < 8
          · simp (disch := omega) only [cLt_t, cLt_f, cEq_t, cEq_f, cLtL_t, cLtL_f, cEqL_t, cEqL_f, cR_t, cRL_t, cZ_t, cN_t, cCp_t, rdA_t, ob_e, bd1_e, bd2_e, bd3_e, bd4_e, bd5_e, bd6_e, bd7_e, bd8_e, bd9_e, bd10_e, bd12_e, hr]
            rw [if_neg (show ¬ n / 4 = 0 by omega), if_pos (show n / 4 = 1 by omega)]; rfl
          · by_cases c3 : (n : Int) < 12
            · simp (disch := omega) only [cLt_t, cLt_f, cEq_t, cEq_f, cLtL_t, cLtL_f, cEqL_t, cEqL_f, cR_t, cRL_t, cZ_t, cN_t, cCp_t, rdA_t, ob_e, bd1_e, bd2_e, bd3_e, bd4_e, bd5_e, bd6_e, bd7_e, bd8_e, bd9_e, bd10_e, bd12_e, hr]
              rw [if_neg (show ¬ n / 4 = 0 by omega), if_neg (show ¬ n / 4 = 1 by omega), if_pos (show n / 4 = 2 by omega)]; rfl
            · by_cases c4 : (n : Int) < 16
              · simp (disch := omega) only [cLt_t, cLt_f, cEq_t, cEq_f, cLtL_t, cLtL_f, cEqL_t, cEqL_f, cR_t, cRL_t, cZ_t, cN_t, cCp_t, rdA_t, ob_e, bd1_e, bd2_e, bd3_e, bd4_e, bd5_e, bd6_e, bd7_e, bd8_e, bd9_e, bd10_e, bd12_e, hr]
                rw [if_neg (show ¬ n / 4 = 0 by omega), if_neg (show ¬ n / 4 = 1 by omega), if_neg (show ¬ n / 4 = 2 by omega), if_pos (show n / 4 = 3 by omega)]; rfl
              · simp (disch := omega) only [cLt_t, cLt_f, cEq_t, cEq_f, cLtL_t, cLtL_f, cEqL_t, cEqL_f, cR_t, cRL_t, cZ_t, cN_t, cCp_t, rdA_t, ob_e, bd1_e, bd2_e, bd3_e, bd4_e, bd5_e, bd6_e, bd7_e, bd8_e, bd9_e, bd10_e, bd12_e, hr]
                rw [if_neg (show ¬ n / 4 = 0 by omega), if_neg (show ¬ n / 4 = 1 by omega), if_neg (show ¬ n / 4 = 2 by omega), if_neg (show ¬ n / 4 = 3 by omega)]; rfl
      · left
        refine ⟨(l, bf), by simp (disch := omega) only [cLt_t, cLt_f, cEq_t, cEq_f, cLtL_t, cLtL_f, cEqL_t, cEqL_f, cR_t, cRL_t, cZ_t, cN_t, cCp_t, rdA_t, ob_e, bd1_e, bd2_e, bd3_e, bd4_e, bd5_e, bd6_e, bd7_e, bd8_e, bd9_e, bd10_e, bd12_e], ?_⟩
        rw [g4, g3, show k.toNat = 20 by omega, show bl + k = bl + 20 by omega]
