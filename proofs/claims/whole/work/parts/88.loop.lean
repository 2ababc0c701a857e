/-! ===== the law: its loop ===== -/
theorem LW.mono {cI cZ cJ : ClassId} {qK qM t : Nat} {wa wb : va_W} (hw : LW cI cZ cJ qK qM t wa wb) : LW cI cZ cJ qK qM (t + 1) wa wb := by
  unfold LW at hw ⊢
  obtain ⟨adK, adM, work, reb, rep, on, bl, gv, al, mc, rc, slots, built, ar, spl, sl, sz, th, gfr, gsz, els, ws, laid, tm, sw, buf, bytes, len, wt, live, mem, rmem, st, ln, ov, area, spare, str, words, rE, rK, pos, num, dep, bf, size, list, moved, pl, starts, kat, el, lg, hd, tl, nx, sk, ls, whole, ed, cA, wA, nA, tA, tak, h1, h2, h3, h4, hI, hS⟩ := hw
  exact ⟨adK, adM, work, reb, rep, on, bl, gv, al, mc, rc, slots, built, ar, spl, sl, sz, th, gfr, gsz, els, ws, laid, tm, sw, buf, bytes, len, wt, live, mem, rmem, st, ln, ov, area, spare, str, words, rE, rK, pos, num, dep, bf, size, list, moved, pl, starts, kat, el, lg, hd, tl, nx, sk, ls, whole, ed, cA, wA, nA, tA, tak, h1, h2, h3, h4, hI.mono, hS⟩
theorem LH.mono {s : State} {D : va_G} {cI cZ cJ : ClassId} {A0 : Nat → Prop} {qK qM t : Nat} {H : Heap} {locs : List Loc} (h : LH s D cI cZ cJ A0 qK qM t H locs) : LH s D cI cZ cJ A0 qK qM (t + 1) H locs := by
  obtain ⟨wa, wb, hw, r⟩ := h
  exact ⟨wa, wb, hw.mono, r⟩
theorem lz_switch {p : Program} {l : Launch} {e : Env} {s : State} {m : MethodId} {below : List Frame} {meth : Method} {c : Code} {b L : Nat} {xs : Nat → Int32} {D : va_G} {cI cZ cJ : ClassId} {A0 : Nat → Prop} (C : LzC p s m c b L xs D cI cZ cJ A0) {qK qM i t : Nat} {H : Heap} {locs : List Loc} {ls : Array Slot} (ht : t ≤ 600) (hi : i + 6 ≤ L) (hw : LH s D cI cZ cJ A0 qK qM t H locs) (hl : LZ ls b qK qM i) (kk : ∀ (H1 : Heap) (locs1 : List Loc), LH s D cI cZ cJ A0 qK qM (t + 1) H1 locs1 → WL p l e s m below meth c b H1 locs1 (F0 m 1334 ls [])) {x : Int32} (h0 : 0 ≤ x.toInt) : WL p l e s m below meth c b H locs (F0 m 33 ls [.int x]) := by
  by_cases e0 : x.toInt = 0
  · exact lv_tableIn (off := 215) (tgt := 248) C.1.1 C.1.2.1 dL_law_33 (by omega) (by omega) (by rw [e0]; rfl) (by decide) (arm_0 C qK qM i t H locs ls ht hi hw hl kk)
  by_cases e1 : x.toInt = 1
  · exact lv_tableIn (off := 278) (tgt := 311) C.1.1 C.1.2.1 dL_law_33 (by omega) (by omega) (by rw [e1]; rfl) (by decide) (arm_1 C qK qM i t H locs ls ht hi hw hl kk)
  by_cases e2 : x.toInt = 2
  · exact lv_tableIn (off := 291) (tgt := 324) C.1.1 C.1.2.1 dL_law_33 (by omega) (by omega) (by rw [e2]; rfl) (by decide) (arm_2 C qK qM i t H locs ls ht hi hw hl kk)
  by_cases e3 : x.toInt = 3
  · exact lv_tableIn (off := 324) (tgt := 357) C.1.1 C.1.2.1 dL_law_33 (by omega) (by omega) (by rw [e3]; rfl) (by decide) (arm_3 C qK qM i t H locs ls ht hi hw hl kk)
  by_cases e4 : x.toInt = 4
  · exact lv_tableIn (off := 347) (tgt := 380) C.1.1 C.1.2.1 dL_law_33 (by omega) (by omega) (by rw [e4]; rfl) (by decide) (arm_4 C qK qM i t H locs ls ht hi hw hl kk)
  by_cases e5 : x.toInt = 5
  · exact lv_tableIn (off := 370) (tgt := 403) C.1.1 C.1.2.1 dL_law_33 (by omega) (by omega) (by rw [e5]; rfl) (by decide) (arm_5 C qK qM i t H locs ls ht hi hw hl kk)
  by_cases e6 : x.toInt = 6
  · exact lv_tableIn (off := 393) (tgt := 426) C.1.1 C.1.2.1 dL_law_33 (by omega) (by omega) (by rw [e6]; rfl) (by decide) (arm_6 C qK qM i t H locs ls ht hi hw hl kk)
  by_cases e7 : x.toInt = 7
  · exact lv_tableIn (off := 426) (tgt := 459) C.1.1 C.1.2.1 dL_law_33 (by omega) (by omega) (by rw [e7]; rfl) (by decide) (arm_7 C qK qM i t H locs ls ht hi hw hl kk)
  by_cases e8 : x.toInt = 8
  · exact lv_tableIn (off := 449) (tgt := 482) C.1.1 C.1.2.1 dL_law_33 (by omega) (by omega) (by rw [e8]; rfl) (by decide) (arm_8 C qK qM i t H locs ls ht hi hw hl kk)
  by_cases e9 : x.toInt = 9
  · exact lv_tableIn (off := 472) (tgt := 505) C.1.1 C.1.2.1 dL_law_33 (by omega) (by omega) (by rw [e9]; rfl) (by decide) (arm_9 C qK qM i t H locs ls ht hi hw hl kk)
  by_cases e10 : x.toInt = 10
  · exact lv_tableIn (off := 485) (tgt := 518) C.1.1 C.1.2.1 dL_law_33 (by omega) (by omega) (by rw [e10]; rfl) (by decide) (arm_10 C qK qM i t H locs ls ht hi hw hl kk)
  by_cases e11 : x.toInt = 11
  · exact lv_tableIn (off := 524) (tgt := 557) C.1.1 C.1.2.1 dL_law_33 (by omega) (by omega) (by rw [e11]; rfl) (by decide) (arm_11 C qK qM i t H locs ls ht hi hw hl kk)
  by_cases e12 : x.toInt = 12
  · exact lv_tableIn (off := 547) (tgt := 580) C.1.1 C.1.2.1 dL_law_33 (by omega) (by omega) (by rw [e12]; rfl) (by decide) (arm_12 C qK qM i t H locs ls ht hi hw hl kk)
  by_cases e13 : x.toInt = 13
  · exact lv_tableIn (off := 570) (tgt := 603) C.1.1 C.1.2.1 dL_law_33 (by omega) (by omega) (by rw [e13]; rfl) (by decide) (arm_13 C qK qM i t H locs ls ht hi hw hl kk)
  by_cases e14 : x.toInt = 14
  · exact lv_tableIn (off := 593) (tgt := 626) C.1.1 C.1.2.1 dL_law_33 (by omega) (by omega) (by rw [e14]; rfl) (by decide) (arm_14 C qK qM i t H locs ls ht hi hw hl kk)
  by_cases e15 : x.toInt = 15
  · exact lv_tableIn (off := 616) (tgt := 649) C.1.1 C.1.2.1 dL_law_33 (by omega) (by omega) (by rw [e15]; rfl) (by decide) (arm_15 C qK qM i t H locs ls ht hi hw hl kk)
  by_cases e16 : x.toInt = 16
  · exact lv_tableIn (off := 639) (tgt := 672) C.1.1 C.1.2.1 dL_law_33 (by omega) (by omega) (by rw [e16]; rfl) (by decide) (arm_16 C qK qM i t H locs ls ht hi hw hl kk)
  by_cases e17 : x.toInt = 17
  · exact lv_tableIn (off := 672) (tgt := 705) C.1.1 C.1.2.1 dL_law_33 (by omega) (by omega) (by rw [e17]; rfl) (by decide) (arm_17 C qK qM i t H locs ls ht hi hw hl kk)
  by_cases e18 : x.toInt = 18
  · exact lv_tableIn (off := 685) (tgt := 718) C.1.1 C.1.2.1 dL_law_33 (by omega) (by omega) (by rw [e18]; rfl) (by decide) (arm_18 C qK qM i t H locs ls ht hi hw hl kk)
  by_cases e19 : x.toInt = 19
  · exact lv_tableIn (off := 708) (tgt := 741) C.1.1 C.1.2.1 dL_law_33 (by omega) (by omega) (by rw [e19]; rfl) (by decide) (arm_19 C qK qM i t H locs ls ht hi hw hl kk)
  by_cases e20 : x.toInt = 20
  · exact lv_tableIn (off := 721) (tgt := 754) C.1.1 C.1.2.1 dL_law_33 (by omega) (by omega) (by rw [e20]; rfl) (by decide) (arm_20 C qK qM i t H locs ls ht hi hw hl kk)
  by_cases e21 : x.toInt = 21
  · exact lv_tableIn (off := 744) (tgt := 777) C.1.1 C.1.2.1 dL_law_33 (by omega) (by omega) (by rw [e21]; rfl) (by decide) (arm_21 C qK qM i t H locs ls ht hi hw hl kk)
  by_cases e22 : x.toInt = 22
  · exact lv_tableIn (off := 757) (tgt := 790) C.1.1 C.1.2.1 dL_law_33 (by omega) (by omega) (by rw [e22]; rfl) (by decide) (arm_22 C qK qM i t H locs ls ht hi hw hl kk)
  by_cases e23 : x.toInt = 23
  · exact lv_tableIn (off := 770) (tgt := 803) C.1.1 C.1.2.1 dL_law_33 (by omega) (by omega) (by rw [e23]; rfl) (by decide) (arm_23 C qK qM i t H locs ls ht hi hw hl kk)
  by_cases e24 : x.toInt = 24
  · exact lv_tableIn (off := 793) (tgt := 826) C.1.1 C.1.2.1 dL_law_33 (by omega) (by omega) (by rw [e24]; rfl) (by decide) (arm_24 C qK qM i t H locs ls ht hi hw hl kk)
  by_cases e25 : x.toInt = 25
  · exact lv_tableIn (off := 806) (tgt := 839) C.1.1 C.1.2.1 dL_law_33 (by omega) (by omega) (by rw [e25]; rfl) (by decide) (arm_25 C qK qM i t H locs ls ht hi hw hl kk)
  by_cases e26 : x.toInt = 26
  · exact lv_tableIn (off := 829) (tgt := 862) C.1.1 C.1.2.1 dL_law_33 (by omega) (by omega) (by rw [e26]; rfl) (by decide) (arm_26 C qK qM i t H locs ls ht hi hw hl kk)
  by_cases e27 : x.toInt = 27
  · exact lv_tableIn (off := 852) (tgt := 885) C.1.1 C.1.2.1 dL_law_33 (by omega) (by omega) (by rw [e27]; rfl) (by decide) (arm_27 C qK qM i t H locs ls ht hi hw hl kk)
  by_cases e28 : x.toInt = 28
  · exact lv_tableIn (off := 865) (tgt := 898) C.1.1 C.1.2.1 dL_law_33 (by omega) (by omega) (by rw [e28]; rfl) (by decide) (arm_28 C qK qM i t H locs ls ht hi hw hl kk)
  by_cases e29 : x.toInt = 29
  · exact lv_tableIn (off := 888) (tgt := 921) C.1.1 C.1.2.1 dL_law_33 (by omega) (by omega) (by rw [e29]; rfl) (by decide) (arm_29 C qK qM i t H locs ls ht hi hw hl kk)
  by_cases e30 : x.toInt = 30
  · exact lv_tableIn (off := 921) (tgt := 954) C.1.1 C.1.2.1 dL_law_33 (by omega) (by omega) (by rw [e30]; rfl) (by decide) (arm_30 C qK qM i t H locs ls ht hi hw hl kk)
  by_cases e31 : x.toInt = 31
  · exact lv_tableIn (off := 934) (tgt := 967) C.1.1 C.1.2.1 dL_law_33 (by omega) (by omega) (by rw [e31]; rfl) (by decide) (arm_31 C qK qM i t H locs ls ht hi hw hl kk)
  by_cases e32 : x.toInt = 32
  · exact lv_tableIn (off := 947) (tgt := 980) C.1.1 C.1.2.1 dL_law_33 (by omega) (by omega) (by rw [e32]; rfl) (by decide) (arm_32 C qK qM i t H locs ls ht hi hw hl kk)
  by_cases e33 : x.toInt = 33
  · exact lv_tableIn (off := 960) (tgt := 993) C.1.1 C.1.2.1 dL_law_33 (by omega) (by omega) (by rw [e33]; rfl) (by decide) (arm_33 C qK qM i t H locs ls ht hi hw hl kk)
  by_cases e34 : x.toInt = 34
  · exact lv_tableIn (off := 973) (tgt := 1006) C.1.1 C.1.2.1 dL_law_33 (by omega) (by omega) (by rw [e34]; rfl) (by decide) (arm_34 C qK qM i t H locs ls ht hi hw hl kk)
  by_cases e35 : x.toInt = 35
  · exact lv_tableIn (off := 986) (tgt := 1019) C.1.1 C.1.2.1 dL_law_33 (by omega) (by omega) (by rw [e35]; rfl) (by decide) (arm_35 C qK qM i t H locs ls ht hi hw hl kk)
  by_cases e36 : x.toInt = 36
  · exact lv_tableIn (off := 1019) (tgt := 1052) C.1.1 C.1.2.1 dL_law_33 (by omega) (by omega) (by rw [e36]; rfl) (by decide) (arm_36 C qK qM i t H locs ls ht hi hw hl kk)
  by_cases e37 : x.toInt = 37
  · exact lv_tableIn (off := 1052) (tgt := 1085) C.1.1 C.1.2.1 dL_law_33 (by omega) (by omega) (by rw [e37]; rfl) (by decide) (arm_37 C qK qM i t H locs ls ht hi hw hl kk)
  by_cases e38 : x.toInt = 38
  · exact lv_tableIn (off := 1075) (tgt := 1108) C.1.1 C.1.2.1 dL_law_33 (by omega) (by omega) (by rw [e38]; rfl) (by decide) (arm_38 C qK qM i t H locs ls ht hi hw hl kk)
  by_cases e39 : x.toInt = 39
  · exact lv_tableIn (off := 1098) (tgt := 1131) C.1.1 C.1.2.1 dL_law_33 (by omega) (by omega) (by rw [e39]; rfl) (by decide) (arm_39 C qK qM i t H locs ls ht hi hw hl kk)
  by_cases e40 : x.toInt = 40
  · exact lv_tableIn (off := 1111) (tgt := 1144) C.1.1 C.1.2.1 dL_law_33 (by omega) (by omega) (by rw [e40]; rfl) (by decide) (arm_40 C qK qM i t H locs ls ht hi hw hl kk)
  by_cases e41 : x.toInt = 41
  · exact lv_tableIn (off := 1134) (tgt := 1167) C.1.1 C.1.2.1 dL_law_33 (by omega) (by omega) (by rw [e41]; rfl) (by decide) (arm_41 C qK qM i t H locs ls ht hi hw hl kk)
  by_cases e42 : x.toInt = 42
  · exact lv_tableIn (off := 1157) (tgt := 1190) C.1.1 C.1.2.1 dL_law_33 (by omega) (by omega) (by rw [e42]; rfl) (by decide) (arm_42 C qK qM i t H locs ls ht hi hw hl kk)
  by_cases e43 : x.toInt = 43
  · exact lv_tableIn (off := 1170) (tgt := 1203) C.1.1 C.1.2.1 dL_law_33 (by omega) (by omega) (by rw [e43]; rfl) (by decide) (arm_43 C qK qM i t H locs ls ht hi hw hl kk)
  by_cases e44 : x.toInt = 44
  · exact lv_tableIn (off := 1183) (tgt := 1216) C.1.1 C.1.2.1 dL_law_33 (by omega) (by omega) (by rw [e44]; rfl) (by decide) (arm_44 C qK qM i t H locs ls ht hi hw hl kk)
  by_cases e45 : x.toInt = 45
  · exact lv_tableIn (off := 1196) (tgt := 1229) C.1.1 C.1.2.1 dL_law_33 (by omega) (by omega) (by rw [e45]; rfl) (by decide) (arm_45 C qK qM i t H locs ls ht hi hw hl kk)
  by_cases e46 : x.toInt = 46
  · exact lv_tableIn (off := 1219) (tgt := 1252) C.1.1 C.1.2.1 dL_law_33 (by omega) (by omega) (by rw [e46]; rfl) (by decide) (arm_46 C qK qM i t H locs ls ht hi hw hl kk)
  by_cases e47 : x.toInt = 47
  · exact lv_tableIn (off := 1242) (tgt := 1275) C.1.1 C.1.2.1 dL_law_33 (by omega) (by omega) (by rw [e47]; rfl) (by decide) (arm_47 C qK qM i t H locs ls ht hi hw hl kk)
  by_cases e48 : x.toInt = 48
  · exact lv_tableIn (off := 1255) (tgt := 1288) C.1.1 C.1.2.1 dL_law_33 (by omega) (by omega) (by rw [e48]; rfl) (by decide) (arm_48 C qK qM i t H locs ls ht hi hw hl kk)
  by_cases e49 : x.toInt = 49
  · exact lv_tableIn (off := 1278) (tgt := 1311) C.1.1 C.1.2.1 dL_law_33 (by omega) (by omega) (by rw [e49]; rfl) (by decide) (arm_49 C qK qM i t H locs ls ht hi hw hl kk)
  exact lv_tableOut (tgt := 1334) C.1.1 C.1.2.1 dL_law_33 (Or.inr (by omega)) (by decide) (kk H locs hw.mono)
/-- the loop's head, with i ints read in t calls -/
theorem lz_loop {p : Program} {l : Launch} {e : Env} {s : State} {m : MethodId} {below : List Frame} {meth : Method} {c : Code} {b L : Nat} {xs : Nat → Int32} {D : va_G} {cI cZ cJ : ClassId} {qK qM : Nat} (C : LzC p s m c b L xs D cI cZ cJ (fun q => s.heap.size ≤ q)) (hr : meth.sig.returnType = ret) (hlocks : meth.locks = false) : ∀ (n i t : Nat) (H : Heap) (locs : List Loc) (ls : Array Slot), i = 6 * t → L + 7 ≤ i + n → i ≤ L + 6 → LH s D cI cZ cJ (fun q => s.heap.size ≤ q) qK qM t H locs → LZ ls b qK qM i → WL p l e s m below meth c b H locs (F0 m 18 ls []) := by
  have hx := C.1.1
  have hb := C.1.2.1
  obtain ⟨S, hK, hA, hbA, hX, hbl, hL⟩ := id C
  intro n
  induction n with
  | zero => intro i t H locs ls h1 h2 h3; omega
  | succ n ih =>
    intro i t H locs ls h1 h2 h3 hw hl
    obtain ⟨wa, wb, hw0, hPa, hPb, hD, hS⟩ := id hw
    refine lv_iload_n hx hb dL_law_18 rfl (lv_at hl 3 rfl) ?_
    refine lv_aload_n hx hb dL_law_19 rfl (lv_at hl 0 rfl) ?_
    refine va_slen hx hb hX hbl hbA hS dL_law_20 ?_
    rw [iI_nat]
    refine k_bipush (n := 6) hx hb (by decide) dL_law_21 ?_
    refine k_isub hx hb dL_law_23 ?_
    have z : iI ((L : Int) - 6) < iI (i : Int) ↔ (L : Int) - 6 < (i : Int) := iI_lt ⟨by omega, by omega⟩ ⟨by omega, by omega⟩
    refine lv_icmp_gt (tgt := 1340) hx hb dL_law_24 (by decide) (fun h => ?_) (fun h => ?_)
    · refine lv_iconst (v := 1) hx hb dL_law_1340 (by decide) ?_
      refine va_forget (fun q hq => hS.2.2 q hq) ?_
      refine W.widen (k := 600000) (n := 7302249) (Nat.le_of_ble_eq_true rfl) (Nat.le_of_ble_eq_true rfl) ?_
      exact lw_ret hx hb hr hlocks dL_law_1341
    · rw [z] at h
      have hi : i + 6 ≤ L := by omega
      refine lv_aload_n hx hb dL_law_27 rfl (lv_at hl 0 rfl) ?_
      refine lv_iload_n hx hb dL_law_28 rfl (lv_at hl 3 rfl) ?_
      refine va_sld hx hb hX hbl hbA hS (iI_in (n := L) (by omega) (by omega) (by omega)) dL_law_29 ?_
      refine k_bipush (n := 63) hx hb (by decide) dL_law_30 ?_
      refine lv_iand hx hb dL_law_32 ?_
      have hv := vp_in_iff.mp (pk_andIn (xs (iI (i : Int)).toNatClampNeg) (m := iI 63) 6 (by decide) (by decide))
      refine lz_switch C (t := t) (i := i) (qK := qK) (qM := qM) (by omega) hi hw hl (fun H1 locs1 hw1 => ?_) hv.1
      refine lv_iinc (v := iI ((i + 6 : Nat) : Int)) (lv' := [(3, .int (iI ((i + 6 : Nat) : Int))), (0, .ref b), (1, .ref qK), (2, .ref qM)]) hx hb dL_law_1334 hl (k := 3) rfl ?_ (by decide) rfl (fun ls2 hl2 => ?_)
      · show iI (i : Int) + iI 6 = _
        rw [iI_add]
        congr 1
      refine lv_goto (tgt := 18) hx hb dL_law_1337 (by decide) ?_
      exact ih (i + 6) (t + 1) H1 locs1 ls2 (by omega) (by omega) (by omega) hw1 (lv_sub hl2 [1, 2, 3, 0] rfl)
