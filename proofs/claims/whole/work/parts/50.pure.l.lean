/-! ===== the table of matches: bytes of words ===== -/
theorem ishr3 {c : Int} (h1 : 0 ≤ c) (h2 : c < 2147483648) : iShr c 3 = c / 8 := by
  have e : iShr c 3 = ((iI c).toBitVec.sshiftRight 3).toInt := rfl
  rw [e, BitVec.toInt_sshiftRight]
  have e2 : (iI c).toBitVec.toInt = c := iI_toInt ⟨by omega, h2⟩
  rw [e2, Int.shiftRight_eq_div_pow]
  rfl
theorem iand7 {c : Int} (h1 : 0 ≤ c) (h2 : c < 2147483648) : iAnd c 7 = c % 8 := by
  have e : iAnd c 7 = ((iI c).toBitVec &&& 7#32).toInt := rfl
  have e2 : (iI c).toBitVec.toInt = c := iI_toInt ⟨by omega, h2⟩
  have e3 : ((iI c).toBitVec.toNat : Int) = c := by
    have h3 := BitVec.toInt_eq_toNat_cond (iI c).toBitVec
    have h4 := (iI c).toBitVec.isLt
    rw [e2] at h3
    split at h3 <;> omega
  have e4 : ((iI c).toBitVec &&& 7#32).toNat = (iI c).toBitVec.toNat % 8 := by
    rw [BitVec.toNat_and]
    exact Nat.and_two_pow_sub_one_eq_mod _ 3
  rw [e, BitVec.toInt_eq_toNat_of_lt (by omega), e4]
  omega
theorem ishl3F : ∀ b : Fin 8, iShl (b.val : Int) 3 = 8 * (b.val : Int) := by decide +kernel
theorem bv255L : ∀ i : Fin 64, (255#64).getLsbD i.val = decide (i.val < 8) := by decide
theorem bv255A (i : Nat) : (255#64).getLsbD i = decide (i < 8) := by
  by_cases h : i < 64
  · exact bv255L ⟨i, h⟩
  · rw [BitVec.getLsbD_of_ge _ _ (by omega)]
    simp
    omega
theorem bvput (x v : BitVec 64) (b d : Nat) (hb : b < 8) (hd : d < 8) : (((x &&& ((255#64 <<< (8 * b)) ^^^ BitVec.allOnes 64)) ||| ((v &&& 255#64) <<< (8 * b))) >>> (8 * d)) &&& 255#64 = if b = d then v &&& 255#64 else (x >>> (8 * d)) &&& 255#64 := by
  apply BitVec.eq_of_getLsbD_eq
  intro i hi
  by_cases h : i < 8
  · have h1 : 8 * d + i < 64 := by omega
    rw [BitVec.getLsbD_and, bv255A, BitVec.getLsbD_ushiftRight, BitVec.getLsbD_or, BitVec.getLsbD_and, BitVec.getLsbD_xor, BitVec.getLsbD_shiftLeft, BitVec.getLsbD_shiftLeft, BitVec.getLsbD_and, bv255A, BitVec.getLsbD_allOnes]
    by_cases hbd : b = d
    · subst hbd
      rw [if_pos rfl, BitVec.getLsbD_and, bv255A]
      have e : 8 * b + i - 8 * b = i := by omega
      have e2 : ¬ 8 * b + i < 8 * b := by omega
      simp [h, h1, e, e2]
    · rw [if_neg hbd, BitVec.getLsbD_and, bv255A, BitVec.getLsbD_ushiftRight]
      by_cases q : 8 * d + i < 8 * b
      · simp [h, h1, q]
      · have e : ¬ 8 * d + i - 8 * b < 8 := by omega
        simp [h, h1, q, e]
  · have e : ∀ z : BitVec 64, (z &&& 255#64).getLsbD i = false := fun z => by rw [BitVec.getLsbD_and, bv255A]; simp [h]
    rw [e]
    split
    · rw [e]
    · rw [e]
theorem bvL_rg (x : BitVec 64) : (x &&& 255#64).toNat ≤ 255 := by
  rw [BitVec.toNat_and]
  exact Nat.and_le_right
/-- byte b of a word -/
def gb (w b : Int) : Int := lAnd (lUshr w (8 * b)) 255
/-- a word with byte b put anew -/
def pb (w b v : Int) : Int := lOr (lAnd w (lXor (lShl 255 (8 * b)) (-1))) (lShl (lAnd v 255) (8 * b))
theorem gb_bv0 (w : Int) : gb w 0 = (((iL w).toBitVec >>> 0 &&& 255#64).toNat : Int) := by
  have e : gb w 0 = ((((iL w).toUInt64 >>> ((iI (8 * 0)).toInt64.toUInt64 &&& Int64.toUInt64 63)).toInt64 &&& iL 255)).toInt := by
    unfold gb lAnd lUshr; rw [iL_of]
  have e2 : (((iL w).toUInt64 >>> ((iI (8 * 0)).toInt64.toUInt64 &&& Int64.toUInt64 63)).toInt64 &&& iL 255).toBitVec = ((iL w).toBitVec >>> 0 &&& 255#64) := rfl
  have h := bvL_rg ((iL w).toBitVec >>> 0)
  rw [e]
  show BitVec.toInt _ = _
  rw [e2]
  exact BitVec.toInt_eq_toNat_of_lt (by omega)
theorem pb_bv0 (w v : Int) : (iL (pb w 0 v)).toBitVec = (((iL w).toBitVec &&& ((255#64 <<< 0) ^^^ BitVec.allOnes 64)) ||| (((iL v).toBitVec &&& 255#64) <<< 0)) := by
  unfold pb lOr lAnd lXor lShl
  rw [iL_of, iL_of, iL_of, iL_of, iL_of, iL_of]
  rfl
theorem gb_bv1 (w : Int) : gb w 1 = (((iL w).toBitVec >>> 8 &&& 255#64).toNat : Int) := by
  have e : gb w 1 = ((((iL w).toUInt64 >>> ((iI (8 * 1)).toInt64.toUInt64 &&& Int64.toUInt64 63)).toInt64 &&& iL 255)).toInt := by
    unfold gb lAnd lUshr; rw [iL_of]
  have e2 : (((iL w).toUInt64 >>> ((iI (8 * 1)).toInt64.toUInt64 &&& Int64.toUInt64 63)).toInt64 &&& iL 255).toBitVec = ((iL w).toBitVec >>> 8 &&& 255#64) := rfl
  have h := bvL_rg ((iL w).toBitVec >>> 8)
  rw [e]
  show BitVec.toInt _ = _
  rw [e2]
  exact BitVec.toInt_eq_toNat_of_lt (by omega)
theorem pb_bv1 (w v : Int) : (iL (pb w 1 v)).toBitVec = (((iL w).toBitVec &&& ((255#64 <<< 8) ^^^ BitVec.allOnes 64)) ||| (((iL v).toBitVec &&& 255#64) <<< 8)) := by
  unfold pb lOr lAnd lXor lShl
  rw [iL_of, iL_of, iL_of, iL_of, iL_of, iL_of]
  rfl
theorem gb_bv2 (w : Int) : gb w 2 = (((iL w).toBitVec >>> 16 &&& 255#64).toNat : Int) := by
  have e : gb w 2 = ((((iL w).toUInt64 >>> ((iI (8 * 2)).toInt64.toUInt64 &&& Int64.toUInt64 63)).toInt64 &&& iL 255)).toInt := by
    unfold gb lAnd lUshr; rw [iL_of]
  have e2 : (((iL w).toUInt64 >>> ((iI (8 * 2)).toInt64.toUInt64 &&& Int64.toUInt64 63)).toInt64 &&& iL 255).toBitVec = ((iL w).toBitVec >>> 16 &&& 255#64) := rfl
  have h := bvL_rg ((iL w).toBitVec >>> 16)
  rw [e]
  show BitVec.toInt _ = _
  rw [e2]
  exact BitVec.toInt_eq_toNat_of_lt (by omega)
theorem pb_bv2 (w v : Int) : (iL (pb w 2 v)).toBitVec = (((iL w).toBitVec &&& ((255#64 <<< 16) ^^^ BitVec.allOnes 64)) ||| (((iL v).toBitVec &&& 255#64) <<< 16)) := by
  unfold pb lOr lAnd lXor lShl
  rw [iL_of, iL_of, iL_of, iL_of, iL_of, iL_of]
  rfl
theorem gb_bv3 (w : Int) : gb w 3 = (((iL w).toBitVec >>> 24 &&& 255#64).toNat : Int) := by
  have e : gb w 3 = ((((iL w).toUInt64 >>> ((iI (8 * 3)).toInt64.toUInt64 &&& Int64.toUInt64 63)).toInt64 &&& iL 255)).toInt := by
    unfold gb lAnd lUshr; rw [iL_of]
  have e2 : (((iL w).toUInt64 >>> ((iI (8 * 3)).toInt64.toUInt64 &&& Int64.toUInt64 63)).toInt64 &&& iL 255).toBitVec = ((iL w).toBitVec >>> 24 &&& 255#64) := rfl
  have h := bvL_rg ((iL w).toBitVec >>> 24)
  rw [e]
  show BitVec.toInt _ = _
  rw [e2]
  exact BitVec.toInt_eq_toNat_of_lt (by omega)
theorem pb_bv3 (w v : Int) : (iL (pb w 3 v)).toBitVec = (((iL w).toBitVec &&& ((255#64 <<< 24) ^^^ BitVec.allOnes 64)) ||| (((iL v).toBitVec &&& 255#64) <<< 24)) := by
  unfold pb lOr lAnd lXor lShl
  rw [iL_of, iL_of, iL_of, iL_of, iL_of, iL_of]
  rfl
theorem gb_bv4 (w : Int) : gb w 4 = (((iL w).toBitVec >>> 32 &&& 255#64).toNat : Int) := by
  have e : gb w 4 = ((((iL w).toUInt64 >>> ((iI (8 * 4)).toInt64.toUInt64 &&& Int64.toUInt64 63)).toInt64 &&& iL 255)).toInt := by
    unfold gb lAnd lUshr; rw [iL_of]
  have e2 : (((iL w).toUInt64 >>> ((iI (8 * 4)).toInt64.toUInt64 &&& Int64.toUInt64 63)).toInt64 &&& iL 255).toBitVec = ((iL w).toBitVec >>> 32 &&& 255#64) := rfl
  have h := bvL_rg ((iL w).toBitVec >>> 32)
  rw [e]
  show BitVec.toInt _ = _
  rw [e2]
  exact BitVec.toInt_eq_toNat_of_lt (by omega)
theorem pb_bv4 (w v : Int) : (iL (pb w 4 v)).toBitVec = (((iL w).toBitVec &&& ((255#64 <<< 32) ^^^ BitVec.allOnes 64)) ||| (((iL v).toBitVec &&& 255#64) <<< 32)) := by
  unfold pb lOr lAnd lXor lShl
  rw [iL_of, iL_of, iL_of, iL_of, iL_of, iL_of]
  rfl
theorem gb_bv5 (w : Int) : gb w 5 = (((iL w).toBitVec >>> 40 &&& 255#64).toNat : Int) := by
  have e : gb w 5 = ((((iL w).toUInt64 >>> ((iI (8 * 5)).toInt64.toUInt64 &&& Int64.toUInt64 63)).toInt64 &&& iL 255)).toInt := by
    unfold gb lAnd lUshr; rw [iL_of]
  have e2 : (((iL w).toUInt64 >>> ((iI (8 * 5)).toInt64.toUInt64 &&& Int64.toUInt64 63)).toInt64 &&& iL 255).toBitVec = ((iL w).toBitVec >>> 40 &&& 255#64) := rfl
  have h := bvL_rg ((iL w).toBitVec >>> 40)
  rw [e]
  show BitVec.toInt _ = _
  rw [e2]
  exact BitVec.toInt_eq_toNat_of_lt (by omega)
theorem pb_bv5 (w v : Int) : (iL (pb w 5 v)).toBitVec = (((iL w).toBitVec &&& ((255#64 <<< 40) ^^^ BitVec.allOnes 64)) ||| (((iL v).toBitVec &&& 255#64) <<< 40)) := by
  unfold pb lOr lAnd lXor lShl
  rw [iL_of, iL_of, iL_of, iL_of, iL_of, iL_of]
  rfl
theorem gb_bv6 (w : Int) : gb w 6 = (((iL w).toBitVec >>> 48 &&& 255#64).toNat : Int) := by
  have e : gb w 6 = ((((iL w).toUInt64 >>> ((iI (8 * 6)).toInt64.toUInt64 &&& Int64.toUInt64 63)).toInt64 &&& iL 255)).toInt := by
    unfold gb lAnd lUshr; rw [iL_of]
  have e2 : (((iL w).toUInt64 >>> ((iI (8 * 6)).toInt64.toUInt64 &&& Int64.toUInt64 63)).toInt64 &&& iL 255).toBitVec = ((iL w).toBitVec >>> 48 &&& 255#64) := rfl
  have h := bvL_rg ((iL w).toBitVec >>> 48)
  rw [e]
  show BitVec.toInt _ = _
  rw [e2]
  exact BitVec.toInt_eq_toNat_of_lt (by omega)
theorem pb_bv6 (w v : Int) : (iL (pb w 6 v)).toBitVec = (((iL w).toBitVec &&& ((255#64 <<< 48) ^^^ BitVec.allOnes 64)) ||| (((iL v).toBitVec &&& 255#64) <<< 48)) := by
  unfold pb lOr lAnd lXor lShl
  rw [iL_of, iL_of, iL_of, iL_of, iL_of, iL_of]
  rfl
theorem gb_bv7 (w : Int) : gb w 7 = (((iL w).toBitVec >>> 56 &&& 255#64).toNat : Int) := by
  have e : gb w 7 = ((((iL w).toUInt64 >>> ((iI (8 * 7)).toInt64.toUInt64 &&& Int64.toUInt64 63)).toInt64 &&& iL 255)).toInt := by
    unfold gb lAnd lUshr; rw [iL_of]
  have e2 : (((iL w).toUInt64 >>> ((iI (8 * 7)).toInt64.toUInt64 &&& Int64.toUInt64 63)).toInt64 &&& iL 255).toBitVec = ((iL w).toBitVec >>> 56 &&& 255#64) := rfl
  have h := bvL_rg ((iL w).toBitVec >>> 56)
  rw [e]
  show BitVec.toInt _ = _
  rw [e2]
  exact BitVec.toInt_eq_toNat_of_lt (by omega)
theorem pb_bv7 (w v : Int) : (iL (pb w 7 v)).toBitVec = (((iL w).toBitVec &&& ((255#64 <<< 56) ^^^ BitVec.allOnes 64)) ||| (((iL v).toBitVec &&& 255#64) <<< 56)) := by
  unfold pb lOr lAnd lXor lShl
  rw [iL_of, iL_of, iL_of, iL_of, iL_of, iL_of]
  rfl
theorem gb_pb {w b d v : Int} (hb1 : 0 ≤ b) (hb2 : b < 8) (hd1 : 0 ≤ d) (hd2 : d < 8) (hv1 : 0 ≤ v) (hv2 : v ≤ 255) : gb (pb w b v) d = if b = d then v else gb w d := by
  have hv : (((iL v).toBitVec &&& 255#64).toNat : Int) = v := by
    have e2 : (iL v).toBitVec.toInt = v := iL_toInt ⟨by omega, by omega⟩
    have e3 : ((iL v).toBitVec.toNat : Int) = v := by
      have h3 := BitVec.toInt_eq_toNat_cond (iL v).toBitVec
      have h4 := (iL v).toBitVec.isLt
      rw [e2] at h3
      split at h3 <;> omega
    have e4 : ((iL v).toBitVec &&& 255#64).toNat = (iL v).toBitVec.toNat % 256 := by
      rw [BitVec.toNat_and]
      exact Nat.and_two_pow_sub_one_eq_mod _ 8
    omega
  have cb : b = 0 ∨ b = 1 ∨ b = 2 ∨ b = 3 ∨ b = 4 ∨ b = 5 ∨ b = 6 ∨ b = 7 := by omega
  have cd : d = 0 ∨ d = 1 ∨ d = 2 ∨ d = 3 ∨ d = 4 ∨ d = 5 ∨ d = 6 ∨ d = 7 := by omega
  rcases cb with rfl | rfl | rfl | rfl | rfl | rfl | rfl | rfl <;> rcases cd with rfl | rfl | rfl | rfl | rfl | rfl | rfl | rfl
  · have q := bvput (iL w).toBitVec (iL v).toBitVec 0 0 (by decide) (by decide)
    have q : ((((iL w).toBitVec &&& ((255#64 <<< 0) ^^^ BitVec.allOnes 64)) ||| (((iL v).toBitVec &&& 255#64) <<< 0)) >>> 0) &&& 255#64 = if (0 : Nat) = 0 then (iL v).toBitVec &&& 255#64 else ((iL w).toBitVec >>> 0) &&& 255#64 := q
    rw [gb_bv0, pb_bv0, q, if_pos rfl, if_pos rfl]; exact hv
  · have q := bvput (iL w).toBitVec (iL v).toBitVec 0 1 (by decide) (by decide)
    have q : ((((iL w).toBitVec &&& ((255#64 <<< 0) ^^^ BitVec.allOnes 64)) ||| (((iL v).toBitVec &&& 255#64) <<< 0)) >>> 8) &&& 255#64 = if (0 : Nat) = 1 then (iL v).toBitVec &&& 255#64 else ((iL w).toBitVec >>> 8) &&& 255#64 := q
    rw [gb_bv1, pb_bv0, q, if_neg (by decide), if_neg (by decide), gb_bv1]
  · have q := bvput (iL w).toBitVec (iL v).toBitVec 0 2 (by decide) (by decide)
    have q : ((((iL w).toBitVec &&& ((255#64 <<< 0) ^^^ BitVec.allOnes 64)) ||| (((iL v).toBitVec &&& 255#64) <<< 0)) >>> 16) &&& 255#64 = if (0 : Nat) = 2 then (iL v).toBitVec &&& 255#64 else ((iL w).toBitVec >>> 16) &&& 255#64 := q
    rw [gb_bv2, pb_bv0, q, if_neg (by decide), if_neg (by decide), gb_bv2]
  · have q := bvput (iL w).toBitVec (iL v).toBitVec 0 3 (by decide) (by decide)
    have q : ((((iL w).toBitVec &&& ((255#64 <<< 0) ^^^ BitVec.allOnes 64)) ||| (((iL v).toBitVec &&& 255#64) <<< 0)) >>> 24) &&& 255#64 = if (0 : Nat) = 3 then (iL v).toBitVec &&& 255#64 else ((iL w).toBitVec >>> 24) &&& 255#64 := q
    rw [gb_bv3, pb_bv0, q, if_neg (by decide), if_neg (by decide), gb_bv3]
  · have q := bvput (iL w).toBitVec (iL v).toBitVec 0 4 (by decide) (by decide)
    have q : ((((iL w).toBitVec &&& ((255#64 <<< 0) ^^^ BitVec.allOnes 64)) ||| (((iL v).toBitVec &&& 255#64) <<< 0)) >>> 32) &&& 255#64 = if (0 : Nat) = 4 then (iL v).toBitVec &&& 255#64 else ((iL w).toBitVec >>> 32) &&& 255#64 := q
    rw [gb_bv4, pb_bv0, q, if_neg (by decide), if_neg (by decide), gb_bv4]
  · have q := bvput (iL w).toBitVec (iL v).toBitVec 0 5 (by decide) (by decide)
    have q : ((((iL w).toBitVec &&& ((255#64 <<< 0) ^^^ BitVec.allOnes 64)) ||| (((iL v).toBitVec &&& 255#64) <<< 0)) >>> 40) &&& 255#64 = if (0 : Nat) = 5 then (iL v).toBitVec &&& 255#64 else ((iL w).toBitVec >>> 40) &&& 255#64 := q
    rw [gb_bv5, pb_bv0, q, if_neg (by decide), if_neg (by decide), gb_bv5]
  · have q := bvput (iL w).toBitVec (iL v).toBitVec 0 6 (by decide) (by decide)
    have q : ((((iL w).toBitVec &&& ((255#64 <<< 0) ^^^ BitVec.allOnes 64)) ||| (((iL v).toBitVec &&& 255#64) <<< 0)) >>> 48) &&& 255#64 = if (0 : Nat) = 6 then (iL v).toBitVec &&& 255#64 else ((iL w).toBitVec >>> 48) &&& 255#64 := q
    rw [gb_bv6, pb_bv0, q, if_neg (by decide), if_neg (by decide), gb_bv6]
  · have q := bvput (iL w).toBitVec (iL v).toBitVec 0 7 (by decide) (by decide)
    have q : ((((iL w).toBitVec &&& ((255#64 <<< 0) ^^^ BitVec.allOnes 64)) ||| (((iL v).toBitVec &&& 255#64) <<< 0)) >>> 56) &&& 255#64 = if (0 : Nat) = 7 then (iL v).toBitVec &&& 255#64 else ((iL w).toBitVec >>> 56) &&& 255#64 := q
    rw [gb_bv7, pb_bv0, q, if_neg (by decide), if_neg (by decide), gb_bv7]
  · have q := bvput (iL w).toBitVec (iL v).toBitVec 1 0 (by decide) (by decide)
    have q : ((((iL w).toBitVec &&& ((255#64 <<< 8) ^^^ BitVec.allOnes 64)) ||| (((iL v).toBitVec &&& 255#64) <<< 8)) >>> 0) &&& 255#64 = if (1 : Nat) = 0 then (iL v).toBitVec &&& 255#64 else ((iL w).toBitVec >>> 0) &&& 255#64 := q
    rw [gb_bv0, pb_bv1, q, if_neg (by decide), if_neg (by decide), gb_bv0]
  · have q := bvput (iL w).toBitVec (iL v).toBitVec 1 1 (by decide) (by decide)
    have q : ((((iL w).toBitVec &&& ((255#64 <<< 8) ^^^ BitVec.allOnes 64)) ||| (((iL v).toBitVec &&& 255#64) <<< 8)) >>> 8) &&& 255#64 = if (1 : Nat) = 1 then (iL v).toBitVec &&& 255#64 else ((iL w).toBitVec >>> 8) &&& 255#64 := q
    rw [gb_bv1, pb_bv1, q, if_pos rfl, if_pos rfl]; exact hv
  · have q := bvput (iL w).toBitVec (iL v).toBitVec 1 2 (by decide) (by decide)
    have q : ((((iL w).toBitVec &&& ((255#64 <<< 8) ^^^ BitVec.allOnes 64)) ||| (((iL v).toBitVec &&& 255#64) <<< 8)) >>> 16) &&& 255#64 = if (1 : Nat) = 2 then (iL v).toBitVec &&& 255#64 else ((iL w).toBitVec >>> 16) &&& 255#64 := q
    rw [gb_bv2, pb_bv1, q, if_neg (by decide), if_neg (by decide), gb_bv2]
  · have q := bvput (iL w).toBitVec (iL v).toBitVec 1 3 (by decide) (by decide)
    have q : ((((iL w).toBitVec &&& ((255#64 <<< 8) ^^^ BitVec.allOnes 64)) ||| (((iL v).toBitVec &&& 255#64) <<< 8)) >>> 24) &&& 255#64 = if (1 : Nat) = 3 then (iL v).toBitVec &&& 255#64 else ((iL w).toBitVec >>> 24) &&& 255#64 := q
    rw [gb_bv3, pb_bv1, q, if_neg (by decide), if_neg (by decide), gb_bv3]
  · have q := bvput (iL w).toBitVec (iL v).toBitVec 1 4 (by decide) (by decide)
    have q : ((((iL w).toBitVec &&& ((255#64 <<< 8) ^^^ BitVec.allOnes 64)) ||| (((iL v).toBitVec &&& 255#64) <<< 8)) >>> 32) &&& 255#64 = if (1 : Nat) = 4 then (iL v).toBitVec &&& 255#64 else ((iL w).toBitVec >>> 32) &&& 255#64 := q
    rw [gb_bv4, pb_bv1, q, if_neg (by decide), if_neg (by decide), gb_bv4]
  · have q := bvput (iL w).toBitVec (iL v).toBitVec 1 5 (by decide) (by decide)
    have q : ((((iL w).toBitVec &&& ((255#64 <<< 8) ^^^ BitVec.allOnes 64)) ||| (((iL v).toBitVec &&& 255#64) <<< 8)) >>> 40) &&& 255#64 = if (1 : Nat) = 5 then (iL v).toBitVec &&& 255#64 else ((iL w).toBitVec >>> 40) &&& 255#64 := q
    rw [gb_bv5, pb_bv1, q, if_neg (by decide), if_neg (by decide), gb_bv5]
  · have q := bvput (iL w).toBitVec (iL v).toBitVec 1 6 (by decide) (by decide)
    have q : ((((iL w).toBitVec &&& ((255#64 <<< 8) ^^^ BitVec.allOnes 64)) ||| (((iL v).toBitVec &&& 255#64) <<< 8)) >>> 48) &&& 255#64 = if (1 : Nat) = 6 then (iL v).toBitVec &&& 255#64 else ((iL w).toBitVec >>> 48) &&& 255#64 := q
    rw [gb_bv6, pb_bv1, q, if_neg (by decide), if_neg (by decide), gb_bv6]
  · have q := bvput (iL w).toBitVec (iL v).toBitVec 1 7 (by decide) (by decide)
    have q : ((((iL w).toBitVec &&& ((255#64 <<< 8) ^^^ BitVec.allOnes 64)) ||| (((iL v).toBitVec &&& 255#64) <<< 8)) >>> 56) &&& 255#64 = if (1 : Nat) = 7 then (iL v).toBitVec &&& 255#64 else ((iL w).toBitVec >>> 56) &&& 255#64 := q
    rw [gb_bv7, pb_bv1, q, if_neg (by decide), if_neg (by decide), gb_bv7]
  · have q := bvput (iL w).toBitVec (iL v).toBitVec 2 0 (by decide) (by decide)
    have q : ((((iL w).toBitVec &&& ((255#64 <<< 16) ^^^ BitVec.allOnes 64)) ||| (((iL v).toBitVec &&& 255#64) <<< 16)) >>> 0) &&& 255#64 = if (2 : Nat) = 0 then (iL v).toBitVec &&& 255#64 else ((iL w).toBitVec >>> 0) &&& 255#64 := q
    rw [gb_bv0, pb_bv2, q, if_neg (by decide), if_neg (by decide), gb_bv0]
  · have q := bvput (iL w).toBitVec (iL v).toBitVec 2 1 (by decide) (by decide)
    have q : ((((iL w).toBitVec &&& ((255#64 <<< 16) ^^^ BitVec.allOnes 64)) ||| (((iL v).toBitVec &&& 255#64) <<< 16)) >>> 8) &&& 255#64 = if (2 : Nat) = 1 then (iL v).toBitVec &&& 255#64 else ((iL w).toBitVec >>> 8) &&& 255#64 := q
    rw [gb_bv1, pb_bv2, q, if_neg (by decide), if_neg (by decide), gb_bv1]
  · have q := bvput (iL w).toBitVec (iL v).toBitVec 2 2 (by decide) (by decide)
    have q : ((((iL w).toBitVec &&& ((255#64 <<< 16) ^^^ BitVec.allOnes 64)) ||| (((iL v).toBitVec &&& 255#64) <<< 16)) >>> 16) &&& 255#64 = if (2 : Nat) = 2 then (iL v).toBitVec &&& 255#64 else ((iL w).toBitVec >>> 16) &&& 255#64 := q
    rw [gb_bv2, pb_bv2, q, if_pos rfl, if_pos rfl]; exact hv
  · have q := bvput (iL w).toBitVec (iL v).toBitVec 2 3 (by decide) (by decide)
    have q : ((((iL w).toBitVec &&& ((255#64 <<< 16) ^^^ BitVec.allOnes 64)) ||| (((iL v).toBitVec &&& 255#64) <<< 16)) >>> 24) &&& 255#64 = if (2 : Nat) = 3 then (iL v).toBitVec &&& 255#64 else ((iL w).toBitVec >>> 24) &&& 255#64 := q
    rw [gb_bv3, pb_bv2, q, if_neg (by decide), if_neg (by decide), gb_bv3]
  · have q := bvput (iL w).toBitVec (iL v).toBitVec 2 4 (by decide) (by decide)
    have q : ((((iL w).toBitVec &&& ((255#64 <<< 16) ^^^ BitVec.allOnes 64)) ||| (((iL v).toBitVec &&& 255#64) <<< 16)) >>> 32) &&& 255#64 = if (2 : Nat) = 4 then (iL v).toBitVec &&& 255#64 else ((iL w).toBitVec >>> 32) &&& 255#64 := q
    rw [gb_bv4, pb_bv2, q, if_neg (by decide), if_neg (by decide), gb_bv4]
  · have q := bvput (iL w).toBitVec (iL v).toBitVec 2 5 (by decide) (by decide)
    have q : ((((iL w).toBitVec &&& ((255#64 <<< 16) ^^^ BitVec.allOnes 64)) ||| (((iL v).toBitVec &&& 255#64) <<< 16)) >>> 40) &&& 255#64 = if (2 : Nat) = 5 then (iL v).toBitVec &&& 255#64 else ((iL w).toBitVec >>> 40) &&& 255#64 := q
    rw [gb_bv5, pb_bv2, q, if_neg (by decide), if_neg (by decide), gb_bv5]
  · have q := bvput (iL w).toBitVec (iL v).toBitVec 2 6 (by decide) (by decide)
    have q : ((((iL w).toBitVec &&& ((255#64 <<< 16) ^^^ BitVec.allOnes 64)) ||| (((iL v).toBitVec &&& 255#64) <<< 16)) >>> 48) &&& 255#64 = if (2 : Nat) = 6 then (iL v).toBitVec &&& 255#64 else ((iL w).toBitVec >>> 48) &&& 255#64 := q
    rw [gb_bv6, pb_bv2, q, if_neg (by decide), if_neg (by decide), gb_bv6]
  · have q := bvput (iL w).toBitVec (iL v).toBitVec 2 7 (by decide) (by decide)
    have q : ((((iL w).toBitVec &&& ((255#64 <<< 16) ^^^ BitVec.allOnes 64)) ||| (((iL v).toBitVec &&& 255#64) <<< 16)) >>> 56) &&& 255#64 = if (2 : Nat) = 7 then (iL v).toBitVec &&& 255#64 else ((iL w).toBitVec >>> 56) &&& 255#64 := q
    rw [gb_bv7, pb_bv2, q, if_neg (by decide), if_neg (by decide), gb_bv7]
  · have q := bvput (iL w).toBitVec (iL v).toBitVec 3 0 (by decide) (by decide)
    have q : ((((iL w).toBitVec &&& ((255#64 <<< 24) ^^^ BitVec.allOnes 64)) ||| (((iL v).toBitVec &&& 255#64) <<< 24)) >>> 0) &&& 255#64 = if (3 : Nat) = 0 then (iL v).toBitVec &&& 255#64 else ((iL w).toBitVec >>> 0) &&& 255#64 := q
    rw [gb_bv0, pb_bv3, q, if_neg (by decide), if_neg (by decide), gb_bv0]
  · have q := bvput (iL w).toBitVec (iL v).toBitVec 3 1 (by decide) (by decide)
    have q : ((((iL w).toBitVec &&& ((255#64 <<< 24) ^^^ BitVec.allOnes 64)) ||| (((iL v).toBitVec &&& 255#64) <<< 24)) >>> 8) &&& 255#64 = if (3 : Nat) = 1 then (iL v).toBitVec &&& 255#64 else ((iL w).toBitVec >>> 8) &&& 255#64 := q
    rw [gb_bv1, pb_bv3, q, if_neg (by decide), if_neg (by decide), gb_bv1]
  · have q := bvput (iL w).toBitVec (iL v).toBitVec 3 2 (by decide) (by decide)
    have q : ((((iL w).toBitVec &&& ((255#64 <<< 24) ^^^ BitVec.allOnes 64)) ||| (((iL v).toBitVec &&& 255#64) <<< 24)) >>> 16) &&& 255#64 = if (3 : Nat) = 2 then (iL v).toBitVec &&& 255#64 else ((iL w).toBitVec >>> 16) &&& 255#64 := q
    rw [gb_bv2, pb_bv3, q, if_neg (by decide), if_neg (by decide), gb_bv2]
  · have q := bvput (iL w).toBitVec (iL v).toBitVec 3 3 (by decide) (by decide)
    have q : ((((iL w).toBitVec &&& ((255#64 <<< 24) ^^^ BitVec.allOnes 64)) ||| (((iL v).toBitVec &&& 255#64) <<< 24)) >>> 24) &&& 255#64 = if (3 : Nat) = 3 then (iL v).toBitVec &&& 255#64 else ((iL w).toBitVec >>> 24) &&& 255#64 := q
    rw [gb_bv3, pb_bv3, q, if_pos rfl, if_pos rfl]; exact hv
  · have q := bvput (iL w).toBitVec (iL v).toBitVec 3 4 (by decide) (by decide)
    have q : ((((iL w).toBitVec &&& ((255#64 <<< 24) ^^^ BitVec.allOnes 64)) ||| (((iL v).toBitVec &&& 255#64) <<< 24)) >>> 32) &&& 255#64 = if (3 : Nat) = 4 then (iL v).toBitVec &&& 255#64 else ((iL w).toBitVec >>> 32) &&& 255#64 := q
    rw [gb_bv4, pb_bv3, q, if_neg (by decide), if_neg (by decide), gb_bv4]
  · have q := bvput (iL w).toBitVec (iL v).toBitVec 3 5 (by decide) (by decide)
    have q : ((((iL w).toBitVec &&& ((255#64 <<< 24) ^^^ BitVec.allOnes 64)) ||| (((iL v).toBitVec &&& 255#64) <<< 24)) >>> 40) &&& 255#64 = if (3 : Nat) = 5 then (iL v).toBitVec &&& 255#64 else ((iL w).toBitVec >>> 40) &&& 255#64 := q
    rw [gb_bv5, pb_bv3, q, if_neg (by decide), if_neg (by decide), gb_bv5]
  · have q := bvput (iL w).toBitVec (iL v).toBitVec 3 6 (by decide) (by decide)
    have q : ((((iL w).toBitVec &&& ((255#64 <<< 24) ^^^ BitVec.allOnes 64)) ||| (((iL v).toBitVec &&& 255#64) <<< 24)) >>> 48) &&& 255#64 = if (3 : Nat) = 6 then (iL v).toBitVec &&& 255#64 else ((iL w).toBitVec >>> 48) &&& 255#64 := q
    rw [gb_bv6, pb_bv3, q, if_neg (by decide), if_neg (by decide), gb_bv6]
  · have q := bvput (iL w).toBitVec (iL v).toBitVec 3 7 (by decide) (by decide)
    have q : ((((iL w).toBitVec &&& ((255#64 <<< 24) ^^^ BitVec.allOnes 64)) ||| (((iL v).toBitVec &&& 255#64) <<< 24)) >>> 56) &&& 255#64 = if (3 : Nat) = 7 then (iL v).toBitVec &&& 255#64 else ((iL w).toBitVec >>> 56) &&& 255#64 := q
    rw [gb_bv7, pb_bv3, q, if_neg (by decide), if_neg (by decide), gb_bv7]
  · have q := bvput (iL w).toBitVec (iL v).toBitVec 4 0 (by decide) (by decide)
    have q : ((((iL w).toBitVec &&& ((255#64 <<< 32) ^^^ BitVec.allOnes 64)) ||| (((iL v).toBitVec &&& 255#64) <<< 32)) >>> 0) &&& 255#64 = if (4 : Nat) = 0 then (iL v).toBitVec &&& 255#64 else ((iL w).toBitVec >>> 0) &&& 255#64 := q
    rw [gb_bv0, pb_bv4, q, if_neg (by decide), if_neg (by decide), gb_bv0]
  · have q := bvput (iL w).toBitVec (iL v).toBitVec 4 1 (by decide) (by decide)
    have q : ((((iL w).toBitVec &&& ((255#64 <<< 32) ^^^ BitVec.allOnes 64)) ||| (((iL v).toBitVec &&& 255#64) <<< 32)) >>> 8) &&& 255#64 = if (4 : Nat) = 1 then (iL v).toBitVec &&& 255#64 else ((iL w).toBitVec >>> 8) &&& 255#64 := q
    rw [gb_bv1, pb_bv4, q, if_neg (by decide), if_neg (by decide), gb_bv1]
  · have q := bvput (iL w).toBitVec (iL v).toBitVec 4 2 (by decide) (by decide)
    have q : ((((iL w).toBitVec &&& ((255#64 <<< 32) ^^^ BitVec.allOnes 64)) ||| (((iL v).toBitVec &&& 255#64) <<< 32)) >>> 16) &&& 255#64 = if (4 : Nat) = 2 then (iL v).toBitVec &&& 255#64 else ((iL w).toBitVec >>> 16) &&& 255#64 := q
    rw [gb_bv2, pb_bv4, q, if_neg (by decide), if_neg (by decide), gb_bv2]
  · have q := bvput (iL w).toBitVec (iL v).toBitVec 4 3 (by decide) (by decide)
    have q : ((((iL w).toBitVec &&& ((255#64 <<< 32) ^^^ BitVec.allOnes 64)) ||| (((iL v).toBitVec &&& 255#64) <<< 32)) >>> 24) &&& 255#64 = if (4 : Nat) = 3 then (iL v).toBitVec &&& 255#64 else ((iL w).toBitVec >>> 24) &&& 255#64 := q
    rw [gb_bv3, pb_bv4, q, if_neg (by decide), if_neg (by decide), gb_bv3]
  · have q := bvput (iL w).toBitVec (iL v).toBitVec 4 4 (by decide) (by decide)
    have q : ((((iL w).toBitVec &&& ((255#64 <<< 32) ^^^ BitVec.allOnes 64)) ||| (((iL v).toBitVec &&& 255#64) <<< 32)) >>> 32) &&& 255#64 = if (4 : Nat) = 4 then (iL v).toBitVec &&& 255#64 else ((iL w).toBitVec >>> 32) &&& 255#64 := q
    rw [gb_bv4, pb_bv4, q, if_pos rfl, if_pos rfl]; exact hv
  · have q := bvput (iL w).toBitVec (iL v).toBitVec 4 5 (by decide) (by decide)
    have q : ((((iL w).toBitVec &&& ((255#64 <<< 32) ^^^ BitVec.allOnes 64)) ||| (((iL v).toBitVec &&& 255#64) <<< 32)) >>> 40) &&& 255#64 = if (4 : Nat) = 5 then (iL v).toBitVec &&& 255#64 else ((iL w).toBitVec >>> 40) &&& 255#64 := q
    rw [gb_bv5, pb_bv4, q, if_neg (by decide), if_neg (by decide), gb_bv5]
  · have q := bvput (iL w).toBitVec (iL v).toBitVec 4 6 (by decide) (by decide)
    have q : ((((iL w).toBitVec &&& ((255#64 <<< 32) ^^^ BitVec.allOnes 64)) ||| (((iL v).toBitVec &&& 255#64) <<< 32)) >>> 48) &&& 255#64 = if (4 : Nat) = 6 then (iL v).toBitVec &&& 255#64 else ((iL w).toBitVec >>> 48) &&& 255#64 := q
    rw [gb_bv6, pb_bv4, q, if_neg (by decide), if_neg (by decide), gb_bv6]
  · have q := bvput (iL w).toBitVec (iL v).toBitVec 4 7 (by decide) (by decide)
    have q : ((((iL w).toBitVec &&& ((255#64 <<< 32) ^^^ BitVec.allOnes 64)) ||| (((iL v).toBitVec &&& 255#64) <<< 32)) >>> 56) &&& 255#64 = if (4 : Nat) = 7 then (iL v).toBitVec &&& 255#64 else ((iL w).toBitVec >>> 56) &&& 255#64 := q
    rw [gb_bv7, pb_bv4, q, if_neg (by decide), if_neg (by decide), gb_bv7]
  · have q := bvput (iL w).toBitVec (iL v).toBitVec 5 0 (by decide) (by decide)
    have q : ((((iL w).toBitVec &&& ((255#64 <<< 40) ^^^ BitVec.allOnes 64)) ||| (((iL v).toBitVec &&& 255#64) <<< 40)) >>> 0) &&& 255#64 = if (5 : Nat) = 0 then (iL v).toBitVec &&& 255#64 else ((iL w).toBitVec >>> 0) &&& 255#64 := q
    rw [gb_bv0, pb_bv5, q, if_neg (by decide), if_neg (by decide), gb_bv0]
  · have q := bvput (iL w).toBitVec (iL v).toBitVec 5 1 (by decide) (by decide)
    have q : ((((iL w).toBitVec &&& ((255#64 <<< 40) ^^^ BitVec.allOnes 64)) ||| (((iL v).toBitVec &&& 255#64) <<< 40)) >>> 8) &&& 255#64 = if (5 : Nat) = 1 then (iL v).toBitVec &&& 255#64 else ((iL w).toBitVec >>> 8) &&& 255#64 := q
    rw [gb_bv1, pb_bv5, q, if_neg (by decide), if_neg (by decide), gb_bv1]
  · have q := bvput (iL w).toBitVec (iL v).toBitVec 5 2 (by decide) (by decide)
    have q : ((((iL w).toBitVec &&& ((255#64 <<< 40) ^^^ BitVec.allOnes 64)) ||| (((iL v).toBitVec &&& 255#64) <<< 40)) >>> 16) &&& 255#64 = if (5 : Nat) = 2 then (iL v).toBitVec &&& 255#64 else ((iL w).toBitVec >>> 16) &&& 255#64 := q
    rw [gb_bv2, pb_bv5, q, if_neg (by decide), if_neg (by decide), gb_bv2]
  · have q := bvput (iL w).toBitVec (iL v).toBitVec 5 3 (by decide) (by decide)
    have q : ((((iL w).toBitVec &&& ((255#64 <<< 40) ^^^ BitVec.allOnes 64)) ||| (((iL v).toBitVec &&& 255#64) <<< 40)) >>> 24) &&& 255#64 = if (5 : Nat) = 3 then (iL v).toBitVec &&& 255#64 else ((iL w).toBitVec >>> 24) &&& 255#64 := q
    rw [gb_bv3, pb_bv5, q, if_neg (by decide), if_neg (by decide), gb_bv3]
  · have q := bvput (iL w).toBitVec (iL v).toBitVec 5 4 (by decide) (by decide)
    have q : ((((iL w).toBitVec &&& ((255#64 <<< 40) ^^^ BitVec.allOnes 64)) ||| (((iL v).toBitVec &&& 255#64) <<< 40)) >>> 32) &&& 255#64 = if (5 : Nat) = 4 then (iL v).toBitVec &&& 255#64 else ((iL w).toBitVec >>> 32) &&& 255#64 := q
    rw [gb_bv4, pb_bv5, q, if_neg (by decide), if_neg (by decide), gb_bv4]
  · have q := bvput (iL w).toBitVec (iL v).toBitVec 5 5 (by decide) (by decide)
    have q : ((((iL w).toBitVec &&& ((255#64 <<< 40) ^^^ BitVec.allOnes 64)) ||| (((iL v).toBitVec &&& 255#64) <<< 40)) >>> 40) &&& 255#64 = if (5 : Nat) = 5 then (iL v).toBitVec &&& 255#64 else ((iL w).toBitVec >>> 40) &&& 255#64 := q
    rw [gb_bv5, pb_bv5, q, if_pos rfl, if_pos rfl]; exact hv
  · have q := bvput (iL w).toBitVec (iL v).toBitVec 5 6 (by decide) (by decide)
    have q : ((((iL w).toBitVec &&& ((255#64 <<< 40) ^^^ BitVec.allOnes 64)) ||| (((iL v).toBitVec &&& 255#64) <<< 40)) >>> 48) &&& 255#64 = if (5 : Nat) = 6 then (iL v).toBitVec &&& 255#64 else ((iL w).toBitVec >>> 48) &&& 255#64 := q
    rw [gb_bv6, pb_bv5, q, if_neg (by decide), if_neg (by decide), gb_bv6]
  · have q := bvput (iL w).toBitVec (iL v).toBitVec 5 7 (by decide) (by decide)
    have q : ((((iL w).toBitVec &&& ((255#64 <<< 40) ^^^ BitVec.allOnes 64)) ||| (((iL v).toBitVec &&& 255#64) <<< 40)) >>> 56) &&& 255#64 = if (5 : Nat) = 7 then (iL v).toBitVec &&& 255#64 else ((iL w).toBitVec >>> 56) &&& 255#64 := q
    rw [gb_bv7, pb_bv5, q, if_neg (by decide), if_neg (by decide), gb_bv7]
  · have q := bvput (iL w).toBitVec (iL v).toBitVec 6 0 (by decide) (by decide)
    have q : ((((iL w).toBitVec &&& ((255#64 <<< 48) ^^^ BitVec.allOnes 64)) ||| (((iL v).toBitVec &&& 255#64) <<< 48)) >>> 0) &&& 255#64 = if (6 : Nat) = 0 then (iL v).toBitVec &&& 255#64 else ((iL w).toBitVec >>> 0) &&& 255#64 := q
    rw [gb_bv0, pb_bv6, q, if_neg (by decide), if_neg (by decide), gb_bv0]
  · have q := bvput (iL w).toBitVec (iL v).toBitVec 6 1 (by decide) (by decide)
    have q : ((((iL w).toBitVec &&& ((255#64 <<< 48) ^^^ BitVec.allOnes 64)) ||| (((iL v).toBitVec &&& 255#64) <<< 48)) >>> 8) &&& 255#64 = if (6 : Nat) = 1 then (iL v).toBitVec &&& 255#64 else ((iL w).toBitVec >>> 8) &&& 255#64 := q
    rw [gb_bv1, pb_bv6, q, if_neg (by decide), if_neg (by decide), gb_bv1]
  · have q := bvput (iL w).toBitVec (iL v).toBitVec 6 2 (by decide) (by decide)
    have q : ((((iL w).toBitVec &&& ((255#64 <<< 48) ^^^ BitVec.allOnes 64)) ||| (((iL v).toBitVec &&& 255#64) <<< 48)) >>> 16) &&& 255#64 = if (6 : Nat) = 2 then (iL v).toBitVec &&& 255#64 else ((iL w).toBitVec >>> 16) &&& 255#64 := q
    rw [gb_bv2, pb_bv6, q, if_neg (by decide), if_neg (by decide), gb_bv2]
  · have q := bvput (iL w).toBitVec (iL v).toBitVec 6 3 (by decide) (by decide)
    have q : ((((iL w).toBitVec &&& ((255#64 <<< 48) ^^^ BitVec.allOnes 64)) ||| (((iL v).toBitVec &&& 255#64) <<< 48)) >>> 24) &&& 255#64 = if (6 : Nat) = 3 then (iL v).toBitVec &&& 255#64 else ((iL w).toBitVec >>> 24) &&& 255#64 := q
    rw [gb_bv3, pb_bv6, q, if_neg (by decide), if_neg (by decide), gb_bv3]
  · have q := bvput (iL w).toBitVec (iL v).toBitVec 6 4 (by decide) (by decide)
    have q : ((((iL w).toBitVec &&& ((255#64 <<< 48) ^^^ BitVec.allOnes 64)) ||| (((iL v).toBitVec &&& 255#64) <<< 48)) >>> 32) &&& 255#64 = if (6 : Nat) = 4 then (iL v).toBitVec &&& 255#64 else ((iL w).toBitVec >>> 32) &&& 255#64 := q
    rw [gb_bv4, pb_bv6, q, if_neg (by decide), if_neg (by decide), gb_bv4]
  · have q := bvput (iL w).toBitVec (iL v).toBitVec 6 5 (by decide) (by decide)
    have q : ((((iL w).toBitVec &&& ((255#64 <<< 48) ^^^ BitVec.allOnes 64)) ||| (((iL v).toBitVec &&& 255#64) <<< 48)) >>> 40) &&& 255#64 = if (6 : Nat) = 5 then (iL v).toBitVec &&& 255#64 else ((iL w).toBitVec >>> 40) &&& 255#64 := q
    rw [gb_bv5, pb_bv6, q, if_neg (by decide), if_neg (by decide), gb_bv5]
  · have q := bvput (iL w).toBitVec (iL v).toBitVec 6 6 (by decide) (by decide)
    have q : ((((iL w).toBitVec &&& ((255#64 <<< 48) ^^^ BitVec.allOnes 64)) ||| (((iL v).toBitVec &&& 255#64) <<< 48)) >>> 48) &&& 255#64 = if (6 : Nat) = 6 then (iL v).toBitVec &&& 255#64 else ((iL w).toBitVec >>> 48) &&& 255#64 := q
    rw [gb_bv6, pb_bv6, q, if_pos rfl, if_pos rfl]; exact hv
  · have q := bvput (iL w).toBitVec (iL v).toBitVec 6 7 (by decide) (by decide)
    have q : ((((iL w).toBitVec &&& ((255#64 <<< 48) ^^^ BitVec.allOnes 64)) ||| (((iL v).toBitVec &&& 255#64) <<< 48)) >>> 56) &&& 255#64 = if (6 : Nat) = 7 then (iL v).toBitVec &&& 255#64 else ((iL w).toBitVec >>> 56) &&& 255#64 := q
    rw [gb_bv7, pb_bv6, q, if_neg (by decide), if_neg (by decide), gb_bv7]
  · have q := bvput (iL w).toBitVec (iL v).toBitVec 7 0 (by decide) (by decide)
    have q : ((((iL w).toBitVec &&& ((255#64 <<< 56) ^^^ BitVec.allOnes 64)) ||| (((iL v).toBitVec &&& 255#64) <<< 56)) >>> 0) &&& 255#64 = if (7 : Nat) = 0 then (iL v).toBitVec &&& 255#64 else ((iL w).toBitVec >>> 0) &&& 255#64 := q
    rw [gb_bv0, pb_bv7, q, if_neg (by decide), if_neg (by decide), gb_bv0]
  · have q := bvput (iL w).toBitVec (iL v).toBitVec 7 1 (by decide) (by decide)
    have q : ((((iL w).toBitVec &&& ((255#64 <<< 56) ^^^ BitVec.allOnes 64)) ||| (((iL v).toBitVec &&& 255#64) <<< 56)) >>> 8) &&& 255#64 = if (7 : Nat) = 1 then (iL v).toBitVec &&& 255#64 else ((iL w).toBitVec >>> 8) &&& 255#64 := q
    rw [gb_bv1, pb_bv7, q, if_neg (by decide), if_neg (by decide), gb_bv1]
  · have q := bvput (iL w).toBitVec (iL v).toBitVec 7 2 (by decide) (by decide)
    have q : ((((iL w).toBitVec &&& ((255#64 <<< 56) ^^^ BitVec.allOnes 64)) ||| (((iL v).toBitVec &&& 255#64) <<< 56)) >>> 16) &&& 255#64 = if (7 : Nat) = 2 then (iL v).toBitVec &&& 255#64 else ((iL w).toBitVec >>> 16) &&& 255#64 := q
    rw [gb_bv2, pb_bv7, q, if_neg (by decide), if_neg (by decide), gb_bv2]
  · have q := bvput (iL w).toBitVec (iL v).toBitVec 7 3 (by decide) (by decide)
    have q : ((((iL w).toBitVec &&& ((255#64 <<< 56) ^^^ BitVec.allOnes 64)) ||| (((iL v).toBitVec &&& 255#64) <<< 56)) >>> 24) &&& 255#64 = if (7 : Nat) = 3 then (iL v).toBitVec &&& 255#64 else ((iL w).toBitVec >>> 24) &&& 255#64 := q
    rw [gb_bv3, pb_bv7, q, if_neg (by decide), if_neg (by decide), gb_bv3]
  · have q := bvput (iL w).toBitVec (iL v).toBitVec 7 4 (by decide) (by decide)
    have q : ((((iL w).toBitVec &&& ((255#64 <<< 56) ^^^ BitVec.allOnes 64)) ||| (((iL v).toBitVec &&& 255#64) <<< 56)) >>> 32) &&& 255#64 = if (7 : Nat) = 4 then (iL v).toBitVec &&& 255#64 else ((iL w).toBitVec >>> 32) &&& 255#64 := q
    rw [gb_bv4, pb_bv7, q, if_neg (by decide), if_neg (by decide), gb_bv4]
  · have q := bvput (iL w).toBitVec (iL v).toBitVec 7 5 (by decide) (by decide)
    have q : ((((iL w).toBitVec &&& ((255#64 <<< 56) ^^^ BitVec.allOnes 64)) ||| (((iL v).toBitVec &&& 255#64) <<< 56)) >>> 40) &&& 255#64 = if (7 : Nat) = 5 then (iL v).toBitVec &&& 255#64 else ((iL w).toBitVec >>> 40) &&& 255#64 := q
    rw [gb_bv5, pb_bv7, q, if_neg (by decide), if_neg (by decide), gb_bv5]
  · have q := bvput (iL w).toBitVec (iL v).toBitVec 7 6 (by decide) (by decide)
    have q : ((((iL w).toBitVec &&& ((255#64 <<< 56) ^^^ BitVec.allOnes 64)) ||| (((iL v).toBitVec &&& 255#64) <<< 56)) >>> 48) &&& 255#64 = if (7 : Nat) = 6 then (iL v).toBitVec &&& 255#64 else ((iL w).toBitVec >>> 48) &&& 255#64 := q
    rw [gb_bv6, pb_bv7, q, if_neg (by decide), if_neg (by decide), gb_bv6]
  · have q := bvput (iL w).toBitVec (iL v).toBitVec 7 7 (by decide) (by decide)
    have q : ((((iL w).toBitVec &&& ((255#64 <<< 56) ^^^ BitVec.allOnes 64)) ||| (((iL v).toBitVec &&& 255#64) <<< 56)) >>> 56) &&& 255#64 = if (7 : Nat) = 7 then (iL v).toBitVec &&& 255#64 else ((iL w).toBitVec >>> 56) &&& 255#64 := q
    rw [gb_bv7, pb_bv7, q, if_pos rfl, if_pos rfl]; exact hv
theorem gb_rg {w b : Int} (hb1 : 0 ≤ b) (hb2 : b < 8) : 0 ≤ gb w b ∧ gb w b ≤ 255 := by
  have cb : b = 0 ∨ b = 1 ∨ b = 2 ∨ b = 3 ∨ b = 4 ∨ b = 5 ∨ b = 6 ∨ b = 7 := by omega
  rcases cb with rfl | rfl | rfl | rfl | rfl | rfl | rfl | rfl
  · rw [gb_bv0]; have := bvL_rg ((iL w).toBitVec >>> 0); omega
  · rw [gb_bv1]; have := bvL_rg ((iL w).toBitVec >>> 8); omega
  · rw [gb_bv2]; have := bvL_rg ((iL w).toBitVec >>> 16); omega
  · rw [gb_bv3]; have := bvL_rg ((iL w).toBitVec >>> 24); omega
  · rw [gb_bv4]; have := bvL_rg ((iL w).toBitVec >>> 32); omega
  · rw [gb_bv5]; have := bvL_rg ((iL w).toBitVec >>> 40); omega
  · rw [gb_bv6]; have := bvL_rg ((iL w).toBitVec >>> 48); omega
  · rw [gb_bv7]; have := bvL_rg ((iL w).toBitVec >>> 56); omega
/-- the keyword of the match at a start, of a length; -1: none -/
def mt (words : Int → Int) (p l : Int) : Int := gb (words ((16 * p + l - 1) / 8)) ((16 * p + l - 1) % 8) - 1
theorem mt_rg {words : Int → Int} {p l : Int} : -1 ≤ mt words p l ∧ mt words p l ≤ 254 := by
  have := gb_rg (w := words ((16 * p + l - 1) / 8)) (b := (16 * p + l - 1) % 8) (by omega) (by omega)
  unfold mt; omega
theorem X5_isCell_e {p l : Int} (h1 : -2147483648 ≤ p) (h2 : p < 2147483648) (h3 : -2147483648 ≤ l) (h4 : l < 2147483648) : s_X5_isCell p l = some (if 0 ≤ p ∧ p < 600 ∧ 1 ≤ l ∧ l ≤ 16 then 1 else 0) := by
  unfold s_X5_isCell
  by_cases a : p < 0
  · simp (disch := omega) only [cLt_t, cLt_f, cEq_t, cEq_f, cLtL_t, cLtL_f, cEqL_t, cEqL_f, cR_t, cRL_t, cZ_t, cN_t, cCp_t, rdA_t, ob_e, bd1_e, bd2_e, bd3_e, bd4_e, bd5_e, bd6_e, bd7_e, bd8_e, bd9_e, bd10_e, bd12_e]; rw [if_neg (by omega)]
  · by_cases b : p < 600
    · by_cases c : l < 1
      · simp (disch := omega) only [cLt_t, cLt_f, cEq_t, cEq_f, cLtL_t, cLtL_f, cEqL_t, cEqL_f, cR_t, cRL_t, cZ_t, cN_t, cCp_t, rdA_t, ob_e, bd1_e, bd2_e, bd3_e, bd4_e, bd5_e, bd6_e, bd7_e, bd8_e, bd9_e, bd10_e, bd12_e]; rw [if_neg (by omega)]
      · by_cases d : 16 < l
        · simp (disch := omega) only [cLt_t, cLt_f, cEq_t, cEq_f, cLtL_t, cLtL_f, cEqL_t, cEqL_f, cR_t, cRL_t, cZ_t, cN_t, cCp_t, rdA_t, ob_e, bd1_e, bd2_e, bd3_e, bd4_e, bd5_e, bd6_e, bd7_e, bd8_e, bd9_e, bd10_e, bd12_e]; rw [if_neg (by omega)]
        · simp (disch := omega) only [cLt_t, cLt_f, cEq_t, cEq_f, cLtL_t, cLtL_f, cEqL_t, cEqL_f, cR_t, cRL_t, cZ_t, cN_t, cCp_t, rdA_t, ob_e, bd1_e, bd2_e, bd3_e, bd4_e, bd5_e, bd6_e, bd7_e, bd8_e, bd9_e, bd10_e, bd12_e]; rw [if_pos (by omega)]
    · simp (disch := omega) only [cLt_t, cLt_f, cEq_t, cEq_f, cLtL_t, cLtL_f, cEqL_t, cEqL_f, cR_t, cRL_t, cZ_t, cN_t, cCp_t, rdA_t, ob_e, bd1_e, bd2_e, bd3_e, bd4_e, bd5_e, bd6_e, bd7_e, bd8_e, bd9_e, bd10_e, bd12_e]; rw [if_neg (by omega)]
theorem ishl3 {b : Int} (h1 : 0 ≤ b) (h2 : b < 8) : iShl b 3 = 8 * b := by
  obtain ⟨n, rfl⟩ := Int.eq_ofNat_of_zero_le h1
  exact ishl3F ⟨n, by omega⟩
theorem X5_at_e {words : Int → Int} {p l : Int} (h1 : -2147483648 ≤ p) (h2 : p < 2147483648) (h3 : -2147483648 ≤ l) (h4 : l < 2147483648) : s_X5_at words p l = some (if 0 ≤ p ∧ p < 600 ∧ 1 ≤ l ∧ l ≤ 16 then mt words p l else -1) := by
  unfold s_X5_at
  by_cases h : 0 ≤ p ∧ p < 600 ∧ 1 ≤ l ∧ l ≤ 16
  · have e1 := ishr3 (c := p * 16 + l - 1) (by omega) (by omega)
    have e2 := iand7 (c := p * 16 + l - 1) (by omega) (by omega)
    have e3 := ishl3 (b := (p * 16 + l - 1) % 8) (by omega) (by omega)
    simp (disch := omega) only [cLt_t, cLt_f, cEq_t, cEq_f, cLtL_t, cLtL_f, cEqL_t, cEqL_f, cR_t, cRL_t, cZ_t, cN_t, cCp_t, rdA_t, ob_e, bd1_e, bd2_e, bd3_e, bd4_e, bd5_e, bd6_e, bd7_e, bd8_e, bd9_e, bd10_e, bd12_e, X5_isCell_e, if_pos h, e1, e2, e3]
    unfold mt gb
    rw [show p * 16 + l - 1 = 16 * p + l - 1 by omega]
  · simp (disch := omega) only [cLt_t, cLt_f, cEq_t, cEq_f, cLtL_t, cLtL_f, cEqL_t, cEqL_f, cR_t, cRL_t, cZ_t, cN_t, cCp_t, rdA_t, ob_e, bd1_e, bd2_e, bd3_e, bd4_e, bd5_e, bd6_e, bd7_e, bd8_e, bd9_e, bd10_e, bd12_e, X5_isCell_e, if_neg h]
theorem X5_put_e {words : Int → Int} {p l k : Int} (h1 : 0 ≤ p) (h2 : p < 600) (h3 : 1 ≤ l) (h4 : l ≤ 16) (h5 : -1 ≤ k) (h6 : k ≤ 200) : ∃ words2, s_X5_put words p l k = some words2 ∧ ∀ q m, 0 ≤ q → q < 600 → 1 ≤ m → m ≤ 16 → mt words2 q m = if q = p ∧ m = l then k else mt words q m := by
  unfold s_X5_put
  have h : 0 ≤ p ∧ p < 600 ∧ 1 ≤ l ∧ l ≤ 16 := by omega
  have e1 := ishr3 (c := p * 16 + l - 1) (by omega) (by omega)
  have e2 := iand7 (c := p * 16 + l - 1) (by omega) (by omega)
  have e3 := ishl3 (b := (p * 16 + l - 1) % 8) (by omega) (by omega)
  refine ⟨upA words ((16 * p + l - 1) / 8) (pb (words ((16 * p + l - 1) / 8)) ((16 * p + l - 1) % 8) (k + 1)), ?_, fun q m a b c d => ?_⟩
  · simp (disch := omega) only [cLt_t, cLt_f, cEq_t, cEq_f, cLtL_t, cLtL_f, cEqL_t, cEqL_f, cR_t, cRL_t, cZ_t, cN_t, cCp_t, rdA_t, ob_e, bd1_e, bd2_e, bd3_e, bd4_e, bd5_e, bd6_e, bd7_e, bd8_e, bd9_e, bd10_e, bd12_e, X5_isCell_e, if_pos h, e1, e2, e3]
    unfold pb
    rw [show p * 16 + l - 1 = 16 * p + l - 1 by omega]
  · unfold mt
    by_cases hw : (16 * q + m - 1) / 8 = (16 * p + l - 1) / 8
    · rw [hw, upA_s, gb_pb (by omega) (by omega) (by omega) (by omega) (by omega) (by omega)]
      by_cases hb : (16 * p + l - 1) % 8 = (16 * q + m - 1) % 8
      · rw [if_pos hb, if_pos (by omega)]; omega
      · rw [if_neg hb, if_neg (by omega)]
    · rw [upA_n hw, if_neg (by rintro ⟨rfl, rfl⟩; exact hw rfl)]
