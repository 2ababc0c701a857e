/-! ===== the model's rows of matches ===== -/
theorem one32 : ∀ i n : Fin 17, (1#32 <<< n.val).getLsbD i.val = decide (i.val = n.val) := by decide
theorem bit0 : ∀ i : Fin 32, (1#32).getLsbD i.val = decide (i.val = 0) := by decide
theorem bv_one (x : BitVec 32) (s : Nat) (hs : s < 32) : (x.sshiftRight s) &&& 1#32 = if x.getLsbD s then 1#32 else 0#32 := by
  apply BitVec.eq_of_getLsbD_eq
  intro i hi
  have h1 : (1#32).getLsbD i = decide (i = 0) := bit0 ⟨i, hi⟩
  rw [BitVec.getLsbD_and, h1]
  by_cases h : i = 0
  · subst h
    rw [BitVec.getLsbD_sshiftRight]
    by_cases q : x.getLsbD s
    · rw [if_pos q]
      simp [hs, q]
    · rw [if_neg q]
      have q2 : x.getLsbD s = false := by
        cases hq : x.getLsbD s with
        | true => exact absurd hq q
        | false => rfl
      rw [BitVec.getLsbD_eq_getElem hs] at q2
      simp [hs, q2]
  · have h2 : (0#32).getLsbD i = false := by simp
    split
    · rw [h1]; simp [h]
    · rw [h2]; simp [h]
/-- bit l of a row's number -/
def bt (v l : Int) : Prop := (iI v).toBitVec.getLsbD l.toNat = true
theorem bt_has1 (v : Int) : iAnd (iShr v 1) 1 = (if (iI v).toBitVec.getLsbD 1 = true then 1 else 0) := by
  have e : iAnd (iShr v 1) 1 = ((iI v >>> (iI 1 &&& 31)) &&& iI 1).toInt := by unfold iAnd iShr; rw [iI_of]
  have e2 : ((iI v >>> (iI 1 &&& 31)) &&& iI 1).toBitVec = ((iI v).toBitVec.sshiftRight 1) &&& 1#32 := rfl
  rw [e]
  show BitVec.toInt _ = _
  rw [e2, bv_one _ _ (by decide)]
  split <;> rfl
theorem bt_or1 (v : Int) : (iI (iOr v (iShl 1 1))).toBitVec = (iI v).toBitVec ||| (1#32 <<< 1) := by
  unfold iOr iShl; rw [iI_of, iI_of]; rfl
theorem bt_has2 (v : Int) : iAnd (iShr v 2) 1 = (if (iI v).toBitVec.getLsbD 2 = true then 1 else 0) := by
  have e : iAnd (iShr v 2) 1 = ((iI v >>> (iI 2 &&& 31)) &&& iI 1).toInt := by unfold iAnd iShr; rw [iI_of]
  have e2 : ((iI v >>> (iI 2 &&& 31)) &&& iI 1).toBitVec = ((iI v).toBitVec.sshiftRight 2) &&& 1#32 := rfl
  rw [e]
  show BitVec.toInt _ = _
  rw [e2, bv_one _ _ (by decide)]
  split <;> rfl
theorem bt_or2 (v : Int) : (iI (iOr v (iShl 1 2))).toBitVec = (iI v).toBitVec ||| (1#32 <<< 2) := by
  unfold iOr iShl; rw [iI_of, iI_of]; rfl
theorem bt_has3 (v : Int) : iAnd (iShr v 3) 1 = (if (iI v).toBitVec.getLsbD 3 = true then 1 else 0) := by
  have e : iAnd (iShr v 3) 1 = ((iI v >>> (iI 3 &&& 31)) &&& iI 1).toInt := by unfold iAnd iShr; rw [iI_of]
  have e2 : ((iI v >>> (iI 3 &&& 31)) &&& iI 1).toBitVec = ((iI v).toBitVec.sshiftRight 3) &&& 1#32 := rfl
  rw [e]
  show BitVec.toInt _ = _
  rw [e2, bv_one _ _ (by decide)]
  split <;> rfl
theorem bt_or3 (v : Int) : (iI (iOr v (iShl 1 3))).toBitVec = (iI v).toBitVec ||| (1#32 <<< 3) := by
  unfold iOr iShl; rw [iI_of, iI_of]; rfl
theorem bt_has4 (v : Int) : iAnd (iShr v 4) 1 = (if (iI v).toBitVec.getLsbD 4 = true then 1 else 0) := by
  have e : iAnd (iShr v 4) 1 = ((iI v >>> (iI 4 &&& 31)) &&& iI 1).toInt := by unfold iAnd iShr; rw [iI_of]
  have e2 : ((iI v >>> (iI 4 &&& 31)) &&& iI 1).toBitVec = ((iI v).toBitVec.sshiftRight 4) &&& 1#32 := rfl
  rw [e]
  show BitVec.toInt _ = _
  rw [e2, bv_one _ _ (by decide)]
  split <;> rfl
theorem bt_or4 (v : Int) : (iI (iOr v (iShl 1 4))).toBitVec = (iI v).toBitVec ||| (1#32 <<< 4) := by
  unfold iOr iShl; rw [iI_of, iI_of]; rfl
theorem bt_has5 (v : Int) : iAnd (iShr v 5) 1 = (if (iI v).toBitVec.getLsbD 5 = true then 1 else 0) := by
  have e : iAnd (iShr v 5) 1 = ((iI v >>> (iI 5 &&& 31)) &&& iI 1).toInt := by unfold iAnd iShr; rw [iI_of]
  have e2 : ((iI v >>> (iI 5 &&& 31)) &&& iI 1).toBitVec = ((iI v).toBitVec.sshiftRight 5) &&& 1#32 := rfl
  rw [e]
  show BitVec.toInt _ = _
  rw [e2, bv_one _ _ (by decide)]
  split <;> rfl
theorem bt_or5 (v : Int) : (iI (iOr v (iShl 1 5))).toBitVec = (iI v).toBitVec ||| (1#32 <<< 5) := by
  unfold iOr iShl; rw [iI_of, iI_of]; rfl
theorem bt_has6 (v : Int) : iAnd (iShr v 6) 1 = (if (iI v).toBitVec.getLsbD 6 = true then 1 else 0) := by
  have e : iAnd (iShr v 6) 1 = ((iI v >>> (iI 6 &&& 31)) &&& iI 1).toInt := by unfold iAnd iShr; rw [iI_of]
  have e2 : ((iI v >>> (iI 6 &&& 31)) &&& iI 1).toBitVec = ((iI v).toBitVec.sshiftRight 6) &&& 1#32 := rfl
  rw [e]
  show BitVec.toInt _ = _
  rw [e2, bv_one _ _ (by decide)]
  split <;> rfl
theorem bt_or6 (v : Int) : (iI (iOr v (iShl 1 6))).toBitVec = (iI v).toBitVec ||| (1#32 <<< 6) := by
  unfold iOr iShl; rw [iI_of, iI_of]; rfl
theorem bt_has7 (v : Int) : iAnd (iShr v 7) 1 = (if (iI v).toBitVec.getLsbD 7 = true then 1 else 0) := by
  have e : iAnd (iShr v 7) 1 = ((iI v >>> (iI 7 &&& 31)) &&& iI 1).toInt := by unfold iAnd iShr; rw [iI_of]
  have e2 : ((iI v >>> (iI 7 &&& 31)) &&& iI 1).toBitVec = ((iI v).toBitVec.sshiftRight 7) &&& 1#32 := rfl
  rw [e]
  show BitVec.toInt _ = _
  rw [e2, bv_one _ _ (by decide)]
  split <;> rfl
theorem bt_or7 (v : Int) : (iI (iOr v (iShl 1 7))).toBitVec = (iI v).toBitVec ||| (1#32 <<< 7) := by
  unfold iOr iShl; rw [iI_of, iI_of]; rfl
theorem bt_has8 (v : Int) : iAnd (iShr v 8) 1 = (if (iI v).toBitVec.getLsbD 8 = true then 1 else 0) := by
  have e : iAnd (iShr v 8) 1 = ((iI v >>> (iI 8 &&& 31)) &&& iI 1).toInt := by unfold iAnd iShr; rw [iI_of]
  have e2 : ((iI v >>> (iI 8 &&& 31)) &&& iI 1).toBitVec = ((iI v).toBitVec.sshiftRight 8) &&& 1#32 := rfl
  rw [e]
  show BitVec.toInt _ = _
  rw [e2, bv_one _ _ (by decide)]
  split <;> rfl
theorem bt_or8 (v : Int) : (iI (iOr v (iShl 1 8))).toBitVec = (iI v).toBitVec ||| (1#32 <<< 8) := by
  unfold iOr iShl; rw [iI_of, iI_of]; rfl
theorem bt_has9 (v : Int) : iAnd (iShr v 9) 1 = (if (iI v).toBitVec.getLsbD 9 = true then 1 else 0) := by
  have e : iAnd (iShr v 9) 1 = ((iI v >>> (iI 9 &&& 31)) &&& iI 1).toInt := by unfold iAnd iShr; rw [iI_of]
  have e2 : ((iI v >>> (iI 9 &&& 31)) &&& iI 1).toBitVec = ((iI v).toBitVec.sshiftRight 9) &&& 1#32 := rfl
  rw [e]
  show BitVec.toInt _ = _
  rw [e2, bv_one _ _ (by decide)]
  split <;> rfl
theorem bt_or9 (v : Int) : (iI (iOr v (iShl 1 9))).toBitVec = (iI v).toBitVec ||| (1#32 <<< 9) := by
  unfold iOr iShl; rw [iI_of, iI_of]; rfl
theorem bt_has10 (v : Int) : iAnd (iShr v 10) 1 = (if (iI v).toBitVec.getLsbD 10 = true then 1 else 0) := by
  have e : iAnd (iShr v 10) 1 = ((iI v >>> (iI 10 &&& 31)) &&& iI 1).toInt := by unfold iAnd iShr; rw [iI_of]
  have e2 : ((iI v >>> (iI 10 &&& 31)) &&& iI 1).toBitVec = ((iI v).toBitVec.sshiftRight 10) &&& 1#32 := rfl
  rw [e]
  show BitVec.toInt _ = _
  rw [e2, bv_one _ _ (by decide)]
  split <;> rfl
theorem bt_or10 (v : Int) : (iI (iOr v (iShl 1 10))).toBitVec = (iI v).toBitVec ||| (1#32 <<< 10) := by
  unfold iOr iShl; rw [iI_of, iI_of]; rfl
theorem bt_has11 (v : Int) : iAnd (iShr v 11) 1 = (if (iI v).toBitVec.getLsbD 11 = true then 1 else 0) := by
  have e : iAnd (iShr v 11) 1 = ((iI v >>> (iI 11 &&& 31)) &&& iI 1).toInt := by unfold iAnd iShr; rw [iI_of]
  have e2 : ((iI v >>> (iI 11 &&& 31)) &&& iI 1).toBitVec = ((iI v).toBitVec.sshiftRight 11) &&& 1#32 := rfl
  rw [e]
  show BitVec.toInt _ = _
  rw [e2, bv_one _ _ (by decide)]
  split <;> rfl
theorem bt_or11 (v : Int) : (iI (iOr v (iShl 1 11))).toBitVec = (iI v).toBitVec ||| (1#32 <<< 11) := by
  unfold iOr iShl; rw [iI_of, iI_of]; rfl
theorem bt_has12 (v : Int) : iAnd (iShr v 12) 1 = (if (iI v).toBitVec.getLsbD 12 = true then 1 else 0) := by
  have e : iAnd (iShr v 12) 1 = ((iI v >>> (iI 12 &&& 31)) &&& iI 1).toInt := by unfold iAnd iShr; rw [iI_of]
  have e2 : ((iI v >>> (iI 12 &&& 31)) &&& iI 1).toBitVec = ((iI v).toBitVec.sshiftRight 12) &&& 1#32 := rfl
  rw [e]
  show BitVec.toInt _ = _
  rw [e2, bv_one _ _ (by decide)]
  split <;> rfl
theorem bt_or12 (v : Int) : (iI (iOr v (iShl 1 12))).toBitVec = (iI v).toBitVec ||| (1#32 <<< 12) := by
  unfold iOr iShl; rw [iI_of, iI_of]; rfl
theorem bt_has13 (v : Int) : iAnd (iShr v 13) 1 = (if (iI v).toBitVec.getLsbD 13 = true then 1 else 0) := by
  have e : iAnd (iShr v 13) 1 = ((iI v >>> (iI 13 &&& 31)) &&& iI 1).toInt := by unfold iAnd iShr; rw [iI_of]
  have e2 : ((iI v >>> (iI 13 &&& 31)) &&& iI 1).toBitVec = ((iI v).toBitVec.sshiftRight 13) &&& 1#32 := rfl
  rw [e]
  show BitVec.toInt _ = _
  rw [e2, bv_one _ _ (by decide)]
  split <;> rfl
theorem bt_or13 (v : Int) : (iI (iOr v (iShl 1 13))).toBitVec = (iI v).toBitVec ||| (1#32 <<< 13) := by
  unfold iOr iShl; rw [iI_of, iI_of]; rfl
theorem bt_has14 (v : Int) : iAnd (iShr v 14) 1 = (if (iI v).toBitVec.getLsbD 14 = true then 1 else 0) := by
  have e : iAnd (iShr v 14) 1 = ((iI v >>> (iI 14 &&& 31)) &&& iI 1).toInt := by unfold iAnd iShr; rw [iI_of]
  have e2 : ((iI v >>> (iI 14 &&& 31)) &&& iI 1).toBitVec = ((iI v).toBitVec.sshiftRight 14) &&& 1#32 := rfl
  rw [e]
  show BitVec.toInt _ = _
  rw [e2, bv_one _ _ (by decide)]
  split <;> rfl
theorem bt_or14 (v : Int) : (iI (iOr v (iShl 1 14))).toBitVec = (iI v).toBitVec ||| (1#32 <<< 14) := by
  unfold iOr iShl; rw [iI_of, iI_of]; rfl
theorem bt_has15 (v : Int) : iAnd (iShr v 15) 1 = (if (iI v).toBitVec.getLsbD 15 = true then 1 else 0) := by
  have e : iAnd (iShr v 15) 1 = ((iI v >>> (iI 15 &&& 31)) &&& iI 1).toInt := by unfold iAnd iShr; rw [iI_of]
  have e2 : ((iI v >>> (iI 15 &&& 31)) &&& iI 1).toBitVec = ((iI v).toBitVec.sshiftRight 15) &&& 1#32 := rfl
  rw [e]
  show BitVec.toInt _ = _
  rw [e2, bv_one _ _ (by decide)]
  split <;> rfl
theorem bt_or15 (v : Int) : (iI (iOr v (iShl 1 15))).toBitVec = (iI v).toBitVec ||| (1#32 <<< 15) := by
  unfold iOr iShl; rw [iI_of, iI_of]; rfl
theorem bt_has16 (v : Int) : iAnd (iShr v 16) 1 = (if (iI v).toBitVec.getLsbD 16 = true then 1 else 0) := by
  have e : iAnd (iShr v 16) 1 = ((iI v >>> (iI 16 &&& 31)) &&& iI 1).toInt := by unfold iAnd iShr; rw [iI_of]
  have e2 : ((iI v >>> (iI 16 &&& 31)) &&& iI 1).toBitVec = ((iI v).toBitVec.sshiftRight 16) &&& 1#32 := rfl
  rw [e]
  show BitVec.toInt _ = _
  rw [e2, bv_one _ _ (by decide)]
  split <;> rfl
theorem bt_or16 (v : Int) : (iI (iOr v (iShl 1 16))).toBitVec = (iI v).toBitVec ||| (1#32 <<< 16) := by
  unfold iOr iShl; rw [iI_of, iI_of]; rfl
theorem bt_has {v l : Int} (h1 : 1 ≤ l) (h2 : l ≤ 16) : (iAnd (iShr v l) 1 = 1 ∧ bt v l) ∨ (iAnd (iShr v l) 1 = 0 ∧ ¬ bt v l) := by
  have c : l = 1 ∨ l = 2 ∨ l = 3 ∨ l = 4 ∨ l = 5 ∨ l = 6 ∨ l = 7 ∨ l = 8 ∨ l = 9 ∨ l = 10 ∨ l = 11 ∨ l = 12 ∨ l = 13 ∨ l = 14 ∨ l = 15 ∨ l = 16 := by omega
  rcases c with rfl | rfl | rfl | rfl | rfl | rfl | rfl | rfl | rfl | rfl | rfl | rfl | rfl | rfl | rfl | rfl
  · rw [bt_has1]; by_cases q : (iI v).toBitVec.getLsbD 1 = true
    · exact Or.inl ⟨if_pos q, q⟩
    · exact Or.inr ⟨if_neg q, q⟩
  · rw [bt_has2]; by_cases q : (iI v).toBitVec.getLsbD 2 = true
    · exact Or.inl ⟨if_pos q, q⟩
    · exact Or.inr ⟨if_neg q, q⟩
  · rw [bt_has3]; by_cases q : (iI v).toBitVec.getLsbD 3 = true
    · exact Or.inl ⟨if_pos q, q⟩
    · exact Or.inr ⟨if_neg q, q⟩
  · rw [bt_has4]; by_cases q : (iI v).toBitVec.getLsbD 4 = true
    · exact Or.inl ⟨if_pos q, q⟩
    · exact Or.inr ⟨if_neg q, q⟩
  · rw [bt_has5]; by_cases q : (iI v).toBitVec.getLsbD 5 = true
    · exact Or.inl ⟨if_pos q, q⟩
    · exact Or.inr ⟨if_neg q, q⟩
  · rw [bt_has6]; by_cases q : (iI v).toBitVec.getLsbD 6 = true
    · exact Or.inl ⟨if_pos q, q⟩
    · exact Or.inr ⟨if_neg q, q⟩
  · rw [bt_has7]; by_cases q : (iI v).toBitVec.getLsbD 7 = true
    · exact Or.inl ⟨if_pos q, q⟩
    · exact Or.inr ⟨if_neg q, q⟩
  · rw [bt_has8]; by_cases q : (iI v).toBitVec.getLsbD 8 = true
    · exact Or.inl ⟨if_pos q, q⟩
    · exact Or.inr ⟨if_neg q, q⟩
  · rw [bt_has9]; by_cases q : (iI v).toBitVec.getLsbD 9 = true
    · exact Or.inl ⟨if_pos q, q⟩
    · exact Or.inr ⟨if_neg q, q⟩
  · rw [bt_has10]; by_cases q : (iI v).toBitVec.getLsbD 10 = true
    · exact Or.inl ⟨if_pos q, q⟩
    · exact Or.inr ⟨if_neg q, q⟩
  · rw [bt_has11]; by_cases q : (iI v).toBitVec.getLsbD 11 = true
    · exact Or.inl ⟨if_pos q, q⟩
    · exact Or.inr ⟨if_neg q, q⟩
  · rw [bt_has12]; by_cases q : (iI v).toBitVec.getLsbD 12 = true
    · exact Or.inl ⟨if_pos q, q⟩
    · exact Or.inr ⟨if_neg q, q⟩
  · rw [bt_has13]; by_cases q : (iI v).toBitVec.getLsbD 13 = true
    · exact Or.inl ⟨if_pos q, q⟩
    · exact Or.inr ⟨if_neg q, q⟩
  · rw [bt_has14]; by_cases q : (iI v).toBitVec.getLsbD 14 = true
    · exact Or.inl ⟨if_pos q, q⟩
    · exact Or.inr ⟨if_neg q, q⟩
  · rw [bt_has15]; by_cases q : (iI v).toBitVec.getLsbD 15 = true
    · exact Or.inl ⟨if_pos q, q⟩
    · exact Or.inr ⟨if_neg q, q⟩
  · rw [bt_has16]; by_cases q : (iI v).toBitVec.getLsbD 16 = true
    · exact Or.inl ⟨if_pos q, q⟩
    · exact Or.inr ⟨if_neg q, q⟩
theorem bt_or {v n l : Int} (h1 : 1 ≤ l) (h2 : l ≤ 16) (h3 : 1 ≤ n) (h4 : n ≤ 16) : bt (iOr v (iShl 1 n)) l ↔ bt v l ∨ l = n := by
  have key : ∀ m : Nat, m ≤ 16 → (iI (iOr v (iShl 1 n))).toBitVec = (iI v).toBitVec ||| (1#32 <<< m) → n = (m : Int) → (bt (iOr v (iShl 1 n)) l ↔ bt v l ∨ l = n) := by
    intro m hm e en
    unfold bt
    rw [e, BitVec.getLsbD_or, show (1#32 <<< m).getLsbD l.toNat = decide (l.toNat = m) from one32 ⟨l.toNat, by omega⟩ ⟨m, by omega⟩]
    constructor
    · intro q
      rcases (Bool.or_eq_true _ _).mp q with q | q
      · exact Or.inl q
      · exact Or.inr (by have := of_decide_eq_true q; omega)
    · intro q
      rcases q with q | q
      · exact (Bool.or_eq_true _ _).mpr (Or.inl q)
      · exact (Bool.or_eq_true _ _).mpr (Or.inr (decide_eq_true (by omega)))
  have c : n = 1 ∨ n = 2 ∨ n = 3 ∨ n = 4 ∨ n = 5 ∨ n = 6 ∨ n = 7 ∨ n = 8 ∨ n = 9 ∨ n = 10 ∨ n = 11 ∨ n = 12 ∨ n = 13 ∨ n = 14 ∨ n = 15 ∨ n = 16 := by omega
  rcases c with rfl | rfl | rfl | rfl | rfl | rfl | rfl | rfl | rfl | rfl | rfl | rfl | rfl | rfl | rfl | rfl
  · exact key 1 (by decide) (bt_or1 v) rfl
  · exact key 2 (by decide) (bt_or2 v) rfl
  · exact key 3 (by decide) (bt_or3 v) rfl
  · exact key 4 (by decide) (bt_or4 v) rfl
  · exact key 5 (by decide) (bt_or5 v) rfl
  · exact key 6 (by decide) (bt_or6 v) rfl
  · exact key 7 (by decide) (bt_or7 v) rfl
  · exact key 8 (by decide) (bt_or8 v) rfl
  · exact key 9 (by decide) (bt_or9 v) rfl
  · exact key 10 (by decide) (bt_or10 v) rfl
  · exact key 11 (by decide) (bt_or11 v) rfl
  · exact key 12 (by decide) (bt_or12 v) rfl
  · exact key 13 (by decide) (bt_or13 v) rfl
  · exact key 14 (by decide) (bt_or14 v) rfl
  · exact key 15 (by decide) (bt_or15 v) rfl
  · exact key 16 (by decide) (bt_or16 v) rfl
theorem bt_zero {l : Int} (h1 : 1 ≤ l) (h2 : l ≤ 16) : ¬ bt 0 l := by
  unfold bt
  rw [show (iI 0).toBitVec = 0#32 from rfl]
  simp
/-- the model's rows, laid: a bit where a match is, and its keyword -/
def LM (sl : Int) (words starts kat : Int → Int) : Prop := ∀ p l, 0 ≤ p → p < sl → 1 ≤ l → l ≤ 16 → (bt (starts p) l ↔ mt words p l ≠ -1) ∧ (mt words p l ≠ -1 → kat (17 * p + l) = mt words p l)
theorem X8_laysMatches_e {gv on sl : Int} {len bytes wt live str words starts kat : Int → Int} (hK : KW gv len bytes wt live) (hd : DSJ on gv len bytes live) (o1 : 0 ≤ on) (o2 : on ≤ 1) (hs1 : 0 ≤ sl) (hs2 : sl ≤ 600) (hS : RB str 0 600) (hT : TBI on gv len bytes live str sl words) : ∃ starts2 kat2, s_X8_laysMatches gv on sl len bytes live str starts kat = some (starts2, kat2) ∧ LM sl words starts2 kat2 := by
  have hg0 := hK.1
  have hg := hK.2.1
  have main := loopR (fun fu (st : (Int → Int) × (Int → Int) × Int) => s_X8_laysMatches_2 fu gv on sl len bytes live str st.1 st.2.1 st.2.2) (fun st => (sl - st.2.2).toNat) (fun st => 0 ≤ st.2.2 ∧ st.2.2 ≤ sl ∧ LM st.2.2 words st.1 st.2.1) (fun r => LM sl words r.1 r.2) ?_ FU (starts, kat, 0) ⟨Int.le_refl _, hs1, fun p l a b => by have : p < 0 := b; omega⟩ (FU_lt (by show (sl - 0).toNat < _; omega))
  · obtain ⟨⟨s2, k2⟩, e1, e2⟩ := main
    have e1 : s_X8_laysMatches_2 FU gv on sl len bytes live str starts kat 0 = some (s2, k2) := e1
    unfold s_X8_laysMatches
    exact ⟨s2, k2, by simp (disch := omega) only [cLt_t, cLt_f, cEq_t, cEq_f, cLtL_t, cLtL_f, cEqL_t, cEqL_f, cR_t, cRL_t, cZ_t, cN_t, cCp_t, rdA_t, ob_e, bd1_e, bd2_e, bd3_e, bd4_e, bd5_e, bd6_e, bd7_e, bd8_e, bd9_e, bd10_e, bd12_e, e1], e2⟩
  · intro fu ⟨sz, kz, p⟩ ⟨g1, g2, g3⟩
    have g1 : 0 ≤ p := g1
    have g2 : p ≤ sl := g2
    have g3 : LM p words sz kz := g3
    simp only [s_X8_laysMatches_2_s]
    by_cases h : p < sl
    · right
      have inner := loopR (fun fu (st : (Int → Int) × (Int → Int) × Int) => s_X8_laysMatches_19 fu gv on sl len bytes live str st.1 st.2.1 p st.2.2) (fun st => (gv - st.2.2).toNat) (fun st => 0 ≤ st.2.2 ∧ st.2.2 ≤ gv ∧ LM p words st.1 st.2.1 ∧ ∀ l, 1 ≤ l → l ≤ 16 → (bt (st.1 p) l ↔ ∃ k, LV gv live k ∧ k < st.2.2 ∧ len k = l ∧ MA on len bytes str sl k p) ∧ ((∃ k, LV gv live k ∧ k < st.2.2 ∧ len k = l ∧ MA on len bytes str sl k p) → st.2.1 (17 * p + l) = mt words p l)) (fun r => LM (p + 1) words r.1 r.2) ?_ FU (upA sz p 0, kz, 0) ⟨Int.le_refl _, hg0, fun q l a b c d => by have b : q < p := b; show (bt (upA sz p 0 q) l ↔ _) ∧ _; rw [upA_n (by omega)]; exact g3 q l a b c d, fun l a b => ⟨by
        show bt (upA sz p 0 p) l ↔ _
        rw [upA_s]
        exact ⟨fun q => absurd q (bt_zero a b), fun ⟨k, q1, q2, q3⟩ => by have : k < 0 := q2; have := q1.1; omega⟩, fun ⟨k, q1, q2, q3⟩ => by have : k < 0 := q2; have := q1.1; omega⟩⟩ (FU_lt (by show (gv - 0).toNat < _; omega))
      · obtain ⟨⟨s2, k2⟩, e1, e2⟩ := inner
        have e1 : s_X8_laysMatches_19 FU gv on sl len bytes live str (upA sz p 0) kz p 0 = some (s2, k2) := e1
        refine ⟨(s2, k2, p + 1), ⟨by show 0 ≤ p + 1; omega, by show p + 1 ≤ sl; omega, e2⟩, by show (sl - (p + 1)).toNat < (sl - p).toNat; omega, ?_⟩
        simp (disch := omega) only [cLt_t, cLt_f, cEq_t, cEq_f, cLtL_t, cLtL_f, cEqL_t, cEqL_f, cR_t, cRL_t, cZ_t, cN_t, cCp_t, rdA_t, ob_e, bd1_e, bd2_e, bd3_e, bd4_e, bd5_e, bd6_e, bd7_e, bd8_e, bd9_e, bd10_e, bd12_e, e1]
      · intro fu ⟨sy, ky, k⟩ ⟨f1, f2, f3, f4⟩
        have f1 : 0 ≤ k := f1
        have f2 : k ≤ gv := f2
        have f3 : LM p words sy ky := f3
        have f4 : ∀ l, 1 ≤ l → l ≤ 16 → (bt (sy p) l ↔ ∃ j, LV gv live j ∧ j < k ∧ len j = l ∧ MA on len bytes str sl j p) ∧ ((∃ j, LV gv live j ∧ j < k ∧ len j = l ∧ MA on len bytes str sl j p) → ky (17 * p + l) = mt words p l) := f4
        simp only [s_X8_laysMatches_19_s]
        by_cases hk : k < gv
        · right
          have hkk := hK.2.2 k f1 hk
          have skip : ¬ (LV gv live k ∧ MA on len bytes str sl k p) → ∀ l, (∃ j, LV gv live j ∧ j < k + 1 ∧ len j = l ∧ MA on len bytes str sl j p) ↔ (∃ j, LV gv live j ∧ j < k ∧ len j = l ∧ MA on len bytes str sl j p) := fun hn l => ⟨fun ⟨j, q1, q2, q3, q4⟩ => ⟨j, q1, by
            by_cases e : j = k
            · subst e; exact absurd ⟨q1, q4⟩ hn
            · omega, q3, q4⟩, fun ⟨j, q1, q2, q3⟩ => ⟨j, q1, by omega, q3⟩⟩
          by_cases hl : live k = 1
          · obtain ⟨z, z1, z2⟩ := X8_isInStream_e (on := on) (sl := sl) (k := k) (a := p) (n := len k) (bytes := bytes) (str := str) o1 o2 f1 (by omega) (by omega) (by omega) hs1 hs2 (by omega) (by omega) (hK.rb f1 hk (by omega)) (fun j a b => hS j a (by omega))
            rcases z2 with ⟨y1, y2⟩ | ⟨y1, y2⟩
            · have hm : MA on len bytes str sl k p := y2
              have hmt : mt words p (len k) = k := (hT p (len k) g1 (by omega) (by omega) (by omega)).eq hd (fun j q => q) (k := k) ⟨f1, hk, hl⟩ rfl hm
              refine ⟨(upA sy p (iOr (sy p) (iShl 1 (len k))), upA ky (17 * p + len k) k, k + 1), ⟨by show 0 ≤ k + 1; omega, by show k + 1 ≤ gv; omega, ?_, ?_⟩, by show (gv - (k + 1)).toNat < (gv - k).toNat; omega, ?_⟩
              · intro q l a b c d
                have b : q < p := b
                show (bt (upA sy p (iOr (sy p) (iShl 1 (len k))) q) l ↔ _) ∧ (_ → upA ky (17 * p + len k) k (17 * q + l) = _)
                rw [upA_n (by omega), upA_n (by omega)]
                exact f3 q l a b c d
              · intro l a b
                show (bt (upA sy p (iOr (sy p) (iShl 1 (len k))) p) l ↔ ∃ j, LV gv live j ∧ j < k + 1 ∧ len j = l ∧ MA on len bytes str sl j p) ∧ ((∃ j, LV gv live j ∧ j < k + 1 ∧ len j = l ∧ MA on len bytes str sl j p) → upA ky (17 * p + len k) k (17 * p + l) = mt words p l)
                rw [upA_s, bt_or a b (by omega) (by omega), (f4 l a b).1]
                refine ⟨⟨fun q => ?_, fun ⟨j, q1, q2, q3, q4⟩ => ?_⟩, fun ⟨j, q1, q2, q3, q4⟩ => ?_⟩
                · rcases q with ⟨j, q1, q2, q3⟩ | q
                  · exact ⟨j, q1, by omega, q3⟩
                  · exact ⟨k, ⟨f1, hk, hl⟩, by omega, q.symm, hm⟩
                · by_cases e : j = k
                  · subst e; exact Or.inr q3.symm
                  · exact Or.inl ⟨j, q1, by omega, q3, q4⟩
                · by_cases e : l = len k
                  · rw [e, upA_s, hmt]
                  · rw [upA_n (by omega)]
                    refine (f4 l a b).2 ⟨j, q1, ?_, q3, q4⟩
                    by_cases e2 : j = k
                    · subst e2; exact absurd q3.symm e
                    · omega
              · simp (disch := omega) only [cLt_t, cLt_f, cEq_t, cEq_f, cLtL_t, cLtL_f, cEqL_t, cEqL_f, cR_t, cRL_t, cZ_t, cN_t, cCp_t, rdA_t, ob_e, bd1_e, bd2_e, bd3_e, bd4_e, bd5_e, bd6_e, bd7_e, bd8_e, bd9_e, bd10_e, bd12_e, z1]
            · have hn : ¬ (LV gv live k ∧ MA on len bytes str sl k p) := fun q => y2 q.2
              refine ⟨(sy, ky, k + 1), ⟨by show 0 ≤ k + 1; omega, by show k + 1 ≤ gv; omega, f3, fun l a b => ?_⟩, by show (gv - (k + 1)).toNat < (gv - k).toNat; omega, ?_⟩
              · show (bt (sy p) l ↔ ∃ j, LV gv live j ∧ j < k + 1 ∧ len j = l ∧ MA on len bytes str sl j p) ∧ ((∃ j, LV gv live j ∧ j < k + 1 ∧ len j = l ∧ MA on len bytes str sl j p) → ky (17 * p + l) = mt words p l)
                rw [skip hn l]; exact f4 l a b
              · simp (disch := omega) only [cLt_t, cLt_f, cEq_t, cEq_f, cLtL_t, cLtL_f, cEqL_t, cEqL_f, cR_t, cRL_t, cZ_t, cN_t, cCp_t, rdA_t, ob_e, bd1_e, bd2_e, bd3_e, bd4_e, bd5_e, bd6_e, bd7_e, bd8_e, bd9_e, bd10_e, bd12_e, z1]
          · have hn : ¬ (LV gv live k ∧ MA on len bytes str sl k p) := fun q => hl q.1.2.2
            refine ⟨(sy, ky, k + 1), ⟨by show 0 ≤ k + 1; omega, by show k + 1 ≤ gv; omega, f3, fun l a b => ?_⟩, by show (gv - (k + 1)).toNat < (gv - k).toNat; omega, ?_⟩
            · show (bt (sy p) l ↔ ∃ j, LV gv live j ∧ j < k + 1 ∧ len j = l ∧ MA on len bytes str sl j p) ∧ ((∃ j, LV gv live j ∧ j < k + 1 ∧ len j = l ∧ MA on len bytes str sl j p) → ky (17 * p + l) = mt words p l)
              rw [skip hn l]; exact f4 l a b
            · simp (disch := omega) only [cLt_t, cLt_f, cEq_t, cEq_f, cLtL_t, cLtL_f, cEqL_t, cEqL_f, cR_t, cRL_t, cZ_t, cN_t, cCp_t, rdA_t, ob_e, bd1_e, bd2_e, bd3_e, bd4_e, bd5_e, bd6_e, bd7_e, bd8_e, bd9_e, bd10_e, bd12_e]
        · left
          refine ⟨(sy, ky), by simp (disch := omega) only [cLt_t, cLt_f, cEq_t, cEq_f, cLtL_t, cLtL_f, cEqL_t, cEqL_f, cR_t, cRL_t, cZ_t, cN_t, cCp_t, rdA_t, ob_e, bd1_e, bd2_e, bd3_e, bd4_e, bd5_e, bd6_e, bd7_e, bd8_e, bd9_e, bd10_e, bd12_e], fun q l a b c d => ?_⟩
          have b : q < p + 1 := b
          by_cases e : q = p
          · subst e
            have hh := f4 l c d
            have ht := hT q l a (by omega) c d
            have iff : (∃ j, LV gv live j ∧ j < k ∧ len j = l ∧ MA on len bytes str sl j q) ↔ mt words q l ≠ -1 := ⟨fun ⟨j, q1, q2, q3, q4⟩ z => by
              have := ht.eq hd (fun j q => q) (k := j) q1 q3 q4
              have := q1.1
              omega, fun z => by
              rcases ht with ⟨q1, -⟩ | ⟨q1, q2, q3, q4⟩
              · exact absurd q1 z
              · exact ⟨_, q2, by have := q2.2.1; omega, q3, q4⟩⟩
            exact ⟨by show bt (sy q) l ↔ _; rw [hh.1, iff], fun z => hh.2 (iff.mpr z)⟩
          · exact f3 q l a (by omega) c d
    · left
      refine ⟨(sz, kz), by simp (disch := omega) only [cLt_t, cLt_f, cEq_t, cEq_f, cLtL_t, cLtL_f, cEqL_t, cEqL_f, cR_t, cRL_t, cZ_t, cN_t, cCp_t, rdA_t, ob_e, bd1_e, bd2_e, bd3_e, bd4_e, bd5_e, bd6_e, bd7_e, bd8_e, bd9_e, bd10_e, bd12_e], ?_⟩
      show LM sl words sz kz
      rw [show sl = p by omega]; exact g3
/-- 1 where a match is -/
def ha (words : Int → Int) (p l : Int) : Int := if (0 ≤ p ∧ p < 600 ∧ 1 ≤ l ∧ l ≤ 16) ∧ mt words p l ≠ -1 then 1 else 0
theorem ha_rg (words : Int → Int) (p l : Int) : 0 ≤ ha words p l ∧ ha words p l ≤ 1 := by unfold ha; split <;> omega
theorem X5_at_h {words : Int → Int} {p l : Int} (h1 : -2147483648 ≤ p) (h2 : p < 2147483648) (h3 : -2147483648 ≤ l) (h4 : l < 2147483648) : ∃ x, s_X5_at words p l = some x ∧ -1 ≤ x ∧ x ≤ 254 ∧ ((x = -1 ∧ ha words p l = 0) ∨ (x ≠ -1 ∧ ha words p l = 1 ∧ x = mt words p l)) := by
  rw [X5_at_e h1 h2 h3 h4]
  have := mt_rg (words := words) (p := p) (l := l)
  unfold ha
  by_cases c : 0 ≤ p ∧ p < 600 ∧ 1 ≤ l ∧ l ≤ 16
  · refine ⟨mt words p l, by rw [if_pos c], by omega, by omega, ?_⟩
    by_cases d : mt words p l = -1
    · exact Or.inl ⟨d, if_neg (fun q => q.2 d)⟩
    · exact Or.inr ⟨d, if_pos ⟨c, d⟩, rfl⟩
  · exact ⟨-1, by rw [if_neg c], by omega, by omega, Or.inl ⟨rfl, if_neg (fun q => c q.1)⟩⟩
theorem X8_hasAt_e {sl p l : Int} {words starts kat : Int → Int} (h : LM sl words starts kat) (hs : sl ≤ 600) (h1 : 0 ≤ p) (h2 : p < sl) (h3 : 1 ≤ l) (h4 : l ≤ 16) : s_X8_hasAt starts p l = some (ha words p l) := by
  unfold s_X8_hasAt ha
  have hb := (h p l h1 h2 h3 h4).1
  rcases bt_has (v := starts p) h3 h4 with ⟨q1, q2⟩ | ⟨q1, q2⟩
  · rw [if_pos ⟨⟨h1, by omega, h3, h4⟩, hb.mp q2⟩]
    simp (disch := omega) only [cLt_t, cLt_f, cEq_t, cEq_f, cLtL_t, cLtL_f, cEqL_t, cEqL_f, cR_t, cRL_t, cZ_t, cN_t, cCp_t, rdA_t, ob_e, bd1_e, bd2_e, bd3_e, bd4_e, bd5_e, bd6_e, bd7_e, bd8_e, bd9_e, bd10_e, bd12_e]
  · rw [if_neg (fun z => q2 (hb.mpr z.2))]
    simp (disch := omega) only [cLt_t, cLt_f, cEq_t, cEq_f, cLtL_t, cLtL_f, cEqL_t, cEqL_f, cR_t, cRL_t, cZ_t, cN_t, cCp_t, rdA_t, ob_e, bd1_e, bd2_e, bd3_e, bd4_e, bd5_e, bd6_e, bd7_e, bd8_e, bd9_e, bd10_e, bd12_e]
