/-! X8_isContained -/
noncomputable def s_X8_isContained_27 (fu : Nat) : (Int → Int) → Int → Int → Int → Int → Option ((Int) ⊕ (Unit)) := Nat.rec (motive := fun _ => (Int → Int) → Int → Int → Int → Int → Option ((Int) ⊕ (Unit))) (fun _ _ _ _ _ => none) (fun _ ih a_starts l1 l2 l3 l4 => cLt 16 l4 (some (.inr ())) (cLt (l3 + l4) (l1 + l2) (ih a_starts l1 l2 l3 (l4 + 1)) (bd1 (s_X8_hasAt a_starts l3 l4) (fun vz1 => cEq vz1 0 (ih a_starts l1 l2 l3 (l4 + 1)) (some (.inl 1)))))) fu
theorem s_X8_isContained_27_s (fu : Nat) (a_starts : (Int → Int)) (l1 : Int) (l2 : Int) (l3 : Int) (l4 : Int) : s_X8_isContained_27 (fu + 1) a_starts l1 l2 l3 l4 = (cLt 16 l4 (some (.inr ())) (cLt (l3 + l4) (l1 + l2) (s_X8_isContained_27 fu a_starts l1 l2 l3 (l4 + 1)) (bd1 (s_X8_hasAt a_starts l3 l4) (fun vz1 => cEq vz1 0 (s_X8_isContained_27 fu a_starts l1 l2 l3 (l4 + 1)) (some (.inl 1)))))) := rfl
theorem s_X8_isContained_27_z (a_starts : (Int → Int)) (l1 : Int) (l2 : Int) (l3 : Int) (l4 : Int) : s_X8_isContained_27 0 a_starts l1 l2 l3 l4 = none := rfl
noncomputable def s_X8_isContained_17 (fu : Nat) : (Int → Int) → Int → Int → Int → Option (Int) := Nat.rec (motive := fun _ => (Int → Int) → Int → Int → Int → Option (Int)) (fun _ _ _ _ => none) (fun _ ih a_starts l1 l2 l3 => cLt l1 l3 (some 0) (bdS0 (s_X8_isContained_27 FU a_starts l1 l2 l3 (l2 + 1)) (fun rz2 => some rz2) (ih a_starts l1 l2 (l3 + 1)))) fu
theorem s_X8_isContained_17_s (fu : Nat) (a_starts : (Int → Int)) (l1 : Int) (l2 : Int) (l3 : Int) : s_X8_isContained_17 (fu + 1) a_starts l1 l2 l3 = (cLt l1 l3 (some 0) (bdS0 (s_X8_isContained_27 FU a_starts l1 l2 l3 (l2 + 1)) (fun rz2 => some rz2) (s_X8_isContained_17 fu a_starts l1 l2 (l3 + 1)))) := rfl
theorem s_X8_isContained_17_z (a_starts : (Int → Int)) (l1 : Int) (l2 : Int) (l3 : Int) : s_X8_isContained_17 0 a_starts l1 l2 l3 = none := rfl
noncomputable def s_X8_isContained (a_starts : (Int → Int)) (pz1 : Int) (pz2 : Int) : Option (Int) := cLt pz1 16 (s_X8_isContained_17 FU a_starts pz1 pz2 0) (s_X8_isContained_17 FU a_starts pz1 pz2 ((pz1 - 16) + 1))
def rm_X8_isContained : Room := { frames := 1, cells := 0, slots := 0, locals := 22 }
set_option maxHeartbeats 4000000 in
set_option maxRecDepth 100000 in
theorem c_X8_isContained (l : Launch) (D : va_G) (cI cZ cJ : ClassId) {ad : Nat → Nat} {x_thrown : Int} {x_buffered : Int} {x_given : Int} {x_isFolding : Int} {x_work : Int} {x_rebuilt : Int} {x_streamed : Int} {x_reports : Int} {x_gapFrom : Int} {x_gapSize : Int} {x_elements : Int} {x_wholeSize : Int} {x_isLaid : Int} {x_takenMany : Int} {a_buffer : (Int → Int)} {a_length : (Int → Int)} {a_bytes : (Int → Int)} {a_weight : (Int → Int)} {a_live : (Int → Int)} {a_size : (Int → Int)} {a_list : (Int → Int)} {a_moved : (Int → Int)} {a_planned : (Int → Int)} {a_stream : (Int → Int)} {a_reportedEnd : (Int → Int)} {a_reportedKeyword : (Int → Int)} {a_starts : (Int → Int)} {a_keywordAt : (Int → Int)} {a_element : (Int → Int)} {a_long1 : (Int → Int)} {a_head : (Int → Int)} {a_tail : (Int → Int)} {a_next : (Int → Int)} {a_skip : (Int → Int)} {a_last : (Int → Int)} {a_whole : (Int → Int)} {a_edges : (Int → Int)} {a_covers : (Int → Int)} {a_weighs : (Int → Int)} {a_numbers : (Int → Int)} {a_takes : (Int → Int)} {a_takenAt : (Int → Int)} {pz1 : Int} {pz2 : Int} {r : Int} (hs : s_X8_isContained a_starts pz1 pz2 = some r) : Met l yX8_isContained wsX8_isContained rm_X8_isContained (PR D vwCl [(cI, .int), (cZ, .boolean), (cJ, .long)] [.ref (ad 0), .int (iI pz1), .int (iI pz2)] (wM cI cZ cJ ad x_thrown x_buffered x_given x_isFolding x_work x_rebuilt x_streamed x_reports x_gapFrom x_gapSize x_elements x_wholeSize x_isLaid x_takenMany a_buffer a_length a_bytes a_weight a_live a_size a_list a_moved a_planned a_stream a_reportedEnd a_reportedKeyword a_starts a_keywordAt a_element a_long1 a_head a_tail a_next a_skip a_last a_whole a_edges a_covers a_weighs a_numbers a_takes a_takenAt)) (QR (some (.int (iI r)))) 0 0 (fun _ => False) := by
  refine Met.ofW (cc := cX8_isContained) (maxL := 5) (ret := (some .boolean)) (by decide) rfl ?_
  intro p e s m args below meth c s₁ B hml hv
  obtain ⟨hav, hP, hK⟩ := hv
  have hx := B.exec
  have hb := B.bytes
  have hr := B.returns
  have hts := atoms_spec (ws := wsX8_isContained) B.pre
  have hown : s.vm.findClass RX8 = some m.cls := findClass_of_methodNamed B.named
  have hlk := B.notSynchronized
  have hl := lv_entry ([.ref (ad 0), .int (iI pz1), .int (iI pz2)]) (n := 5) (Nat.le_of_ble_eq_true rfl)
  rw [show entryFrame m args 5 = entryFrame m ([.ref (ad 0), .int (iI pz1), .int (iI pz2)] : List Value).toArray 5 from by rw [hav], lg_entry_eq]
  generalize (lg_sl ([.ref (ad 0), .int (iI pz1), .int (iI pz2)]) ++ List.replicate (5 - (lg_sl ([.ref (ad 0), .int (iI pz1), .int (iI pz2)])).length) Slot.unset).toArray = ls at hl ⊢
  have hl : lv_has ls 5 [(0, .ref (ad 0)), (1, .int (iI pz1)), (2, .int (iI pz2))] := hl
  unfold s_X8_isContained at hs
  have Lz27 : ∀ (fu : Nat) (l1 : Int) (l2 : Int) (l3 : Int) (l4 : Int) (outz : (Int) ⊕ (Unit)), s_X8_isContained_27 fu a_starts l1 l2 l3 l4 = some outz → ∀ ls : Array Slot, lv_has ls 5 [(0, .ref (ad 0)), (1, .int (iI l1)), (2, .int (iI l2)), (3, .int (iI l3)), (4, .int (iI l4))] → (∀ rr, outz = .inl rr → rr = r) → (outz = .inr () → ∀ ls : Array Slot, lv_has ls 5 [(0, .ref (ad 0)), (1, .int (iI l1)), (2, .int (iI l2)), (3, .int (iI l3))] → W p l e (headSpec wsX8_isContained rm_X8_isContained).room s m args below meth c s.heap [] 0 0 (MQ below (QR (some (.int (iI r)))) args s 0 0 (fun _ => False)) (F0 m 62 ls [])) → W p l e (headSpec wsX8_isContained rm_X8_isContained).room s m args below meth c s.heap [] 0 0 (MQ below (QR (some (.int (iI r)))) args s 0 0 (fun _ => False)) (F0 m 27 ls []) := by
    intro fu
    induction fu with
    | zero => intro l1 l2 l3 l4 outz hs; cases hs
    | succ fu ih =>
      intro l1 l2 l3 l4 outz hs ls hl kr kx
      rw [s_X8_isContained_27_s] at hs
      refine lv_iload hx hb dX8_isContained_27 (lv_at hl 4 rfl) ?_
      refine k_bipush (n := 16) hx hb (by decide) dX8_isContained_29 ?_
      refine k_icmp_gt (tgt := 62) hx hb hs dX8_isContained_31 (by decide) (fun hs => ?_) (fun hs => ?_)
      · cases hs
        exact kx  rfl ls (lv_sub hl [0, 1, 2, 3] rfl)
      · refine lv_iload_n hx hb dX8_isContained_34 rfl (lv_at hl 3 rfl) ?_
        refine lv_iload hx hb dX8_isContained_35 (lv_at hl 4 rfl) ?_
        refine k_iadd hx hb dX8_isContained_37 ?_
        refine lv_iload_n hx hb dX8_isContained_38 rfl (lv_at hl 1 rfl) ?_
        refine lv_iload_n hx hb dX8_isContained_39 rfl (lv_at hl 2 rfl) ?_
        refine k_iadd hx hb dX8_isContained_40 ?_
        refine k_icmp_lt (tgt := 56) hx hb hs dX8_isContained_41 (by decide) (fun hs => ?_) (fun hs => ?_)
        · refine k_iinc (x := l4) (k := 4) (lv' := [(4, .int (iI (l4 + 1))), (0, .ref (ad 0)), (1, .int (iI l1)), (2, .int (iI l2)), (3, .int (iI l3))]) hx hb dX8_isContained_56 hl rfl (by decide) rfl (fun ls hl => ?_)
          refine lv_goto (tgt := 27) hx hb dX8_isContained_59 (by decide) ?_
          exact ih l1 l2 l3 (l4 + 1) outz hs ls (lv_sub hl [1, 2, 3, 4, 0] rfl) kr kx
        · refine lv_aload_n hx hb dX8_isContained_44 rfl (lv_at hl 0 rfl) ?_
          refine lv_iload_n hx hb dX8_isContained_45 rfl (lv_at hl 3 rfl) ?_
          refine lv_iload hx hb dX8_isContained_46 (lv_at hl 4 rfl) ?_
          obtain ⟨vz1, hcz, hs⟩ := bd1_some hs
          refine k_rV (As := [.int (iI l3), .int (iI l4)]) (rest := []) (st1 := [.int (iI vz1)]) ⟨hx, hb, hml, hown, hts⟩ hK hP (c_X8_hasAt l D cI cZ cJ hcz) (cwV 2 hts gX8_isContained_X8_hasAt rfl rfl rfl (by decide +kernel) ⟨Nat.le_of_ble_eq_true rfl, Nat.le_of_ble_eq_true rfl⟩) 0 rfl rfl rfl rfl hl.1 rfl (lv_room (Nat.le_of_ble_eq_true rfl)) dX8_isContained_48 ⟨Nat.zero_le _, Nat.zero_le _⟩ rfl ?_
          refine k_if_eq (tgt := 56) hx hb hs dX8_isContained_51 (by decide) (fun hs => ?_) (fun hs => ?_)
          · refine k_iinc (x := l4) (k := 4) (lv' := [(4, .int (iI (l4 + 1))), (0, .ref (ad 0)), (1, .int (iI l1)), (2, .int (iI l2)), (3, .int (iI l3))]) hx hb dX8_isContained_56 hl rfl (by decide) rfl (fun ls hl => ?_)
            refine lv_goto (tgt := 27) hx hb dX8_isContained_59 (by decide) ?_
            exact ih l1 l2 l3 (l4 + 1) outz hs ls (lv_sub hl [1, 2, 3, 4, 0] rfl) kr kx
          · refine k_iconst (n := 1) hx hb dX8_isContained_54 ?_
            have hs := kr _ (Option.some.inj hs).symm
            cases hs
            exact k_zret_r hx hb hr hlk rfl (by decide) dX8_isContained_55 rfl
  have Lz17 : ∀ (fu : Nat) (l1 : Int) (l2 : Int) (l3 : Int), s_X8_isContained_17 fu a_starts l1 l2 l3 = some r → ∀ ls : Array Slot, lv_has ls 5 [(0, .ref (ad 0)), (1, .int (iI l1)), (2, .int (iI l2)), (3, .int (iI l3))] → W p l e (headSpec wsX8_isContained rm_X8_isContained).room s m args below meth c s.heap [] 0 0 (MQ below (QR (some (.int (iI r)))) args s 0 0 (fun _ => False)) (F0 m 17 ls []) := by
    intro fu
    induction fu with
    | zero => intro l1 l2 l3 hs; cases hs
    | succ fu ih =>
      intro l1 l2 l3 hs ls hl
      rw [s_X8_isContained_17_s] at hs
      refine lv_iload_n hx hb dX8_isContained_17 rfl (lv_at hl 3 rfl) ?_
      refine lv_iload_n hx hb dX8_isContained_18 rfl (lv_at hl 1 rfl) ?_
      refine k_icmp_gt (tgt := 68) hx hb hs dX8_isContained_19 (by decide) (fun hs => ?_) (fun hs => ?_)
      · refine k_iconst (n := 0) hx hb dX8_isContained_68 ?_
        cases hs
        exact k_zret_r hx hb hr hlk rfl (by decide) dX8_isContained_69 rfl
      · refine lv_iload_n hx hb dX8_isContained_22 rfl (lv_at hl 2 rfl) ?_
        refine k_iconst (n := 1) hx hb dX8_isContained_23 ?_
        refine k_iadd hx hb dX8_isContained_24 ?_
        refine lv_istore (lv' := [(4, .int (iI (l2 + 1))), (0, .ref (ad 0)), (1, .int (iI l1)), (2, .int (iI l2)), (3, .int (iI l3))]) hx hb dX8_isContained_25 hl (by decide) rfl (fun ls hl => ?_)
        rcases bdS0_some hs with ⟨rz2, hq, hs⟩ | ⟨hq, hs⟩
        · refine Lz27 FU l1 l2 l3 (l2 + 1) (.inl rz2) hq ls (lv_sub hl [1, 2, 3, 4, 0] rfl) (fun r9 h9 => by cases h9; exact Option.some.inj hs) (fun  h9 => by cases h9)
        · refine Lz27 FU l1 l2 l3 (l2 + 1) (.inr ()) hq ls (lv_sub hl [1, 2, 3, 4, 0] rfl) (fun r9 h9 => by cases h9) ?_
          intro  h9 ls hl
          cases h9
          refine k_iinc (x := l3) (k := 3) (lv' := [(3, .int (iI (l3 + 1))), (0, .ref (ad 0)), (1, .int (iI l1)), (2, .int (iI l2))]) hx hb dX8_isContained_62 hl rfl (by decide) rfl (fun ls hl => ?_)
          refine lv_goto (tgt := 17) hx hb dX8_isContained_65 (by decide) ?_
          exact ih l1 l2 (l3 + 1)  hs ls (lv_sub hl [1, 2, 3, 0] rfl)
  refine lv_iload_n hx hb dX8_isContained_0 rfl (lv_at hl 1 rfl) ?_
  refine k_bipush (n := 16) hx hb (by decide) dX8_isContained_1 ?_
  refine k_icmp_ge (tgt := 10) hx hb hs dX8_isContained_3 (by decide) (fun hs => ?_) (fun hs => ?_)
  · refine k_iconst (n := 0) hx hb dX8_isContained_6 ?_
    refine lv_goto (tgt := 16) hx hb dX8_isContained_7 (by decide) ?_
    refine lv_istore_n (lv' := [(3, .int (iI 0)), (0, .ref (ad 0)), (1, .int (iI pz1)), (2, .int (iI pz2))]) hx hb dX8_isContained_16 rfl hl (by decide) rfl (fun ls hl => ?_)
    exact Lz17 FU pz1 pz2 0 hs ls (lv_sub hl [1, 2, 3, 0] rfl)
  · refine lv_iload_n hx hb dX8_isContained_10 rfl (lv_at hl 1 rfl) ?_
    refine k_bipush (n := 16) hx hb (by decide) dX8_isContained_11 ?_
    refine k_isub hx hb dX8_isContained_13 ?_
    refine k_iconst (n := 1) hx hb dX8_isContained_14 ?_
    refine k_iadd hx hb dX8_isContained_15 ?_
    refine lv_istore_n (lv' := [(3, .int (iI ((pz1 - 16) + 1))), (0, .ref (ad 0)), (1, .int (iI pz1)), (2, .int (iI pz2))]) hx hb dX8_isContained_16 rfl hl (by decide) rfl (fun ls hl => ?_)
    exact Lz17 FU pz1 pz2 ((pz1 - 16) + 1) hs ls (lv_sub hl [1, 2, 3, 0] rfl)
/-! X8_containedMatches -/
noncomputable def s_X8_containedMatches_23 (fu : Nat) : (Int → Int) → Int → Int → Int → Option (Int) := Nat.rec (motive := fun _ => (Int → Int) → Int → Int → Int → Option (Int)) (fun _ _ _ _ => none) (fun _ ih a_starts l1 l2 l3 => cLt 16 l3 (some l1) (bd1 (s_X8_hasAt a_starts l2 l3) (fun vz3 => cEq vz3 0 (ih a_starts (l1 + 0) l2 (l3 + 1)) (bd1 (s_X8_isContained a_starts l2 l3) (fun vz4 => cEq vz4 0 (ih a_starts (l1 + 0) l2 (l3 + 1)) (ih a_starts (l1 + 1) l2 (l3 + 1))))))) fu
theorem s_X8_containedMatches_23_s (fu : Nat) (a_starts : (Int → Int)) (l1 : Int) (l2 : Int) (l3 : Int) : s_X8_containedMatches_23 (fu + 1) a_starts l1 l2 l3 = (cLt 16 l3 (some l1) (bd1 (s_X8_hasAt a_starts l2 l3) (fun vz3 => cEq vz3 0 (s_X8_containedMatches_23 fu a_starts (l1 + 0) l2 (l3 + 1)) (bd1 (s_X8_isContained a_starts l2 l3) (fun vz4 => cEq vz4 0 (s_X8_containedMatches_23 fu a_starts (l1 + 0) l2 (l3 + 1)) (s_X8_containedMatches_23 fu a_starts (l1 + 1) l2 (l3 + 1))))))) := rfl
theorem s_X8_containedMatches_23_z (a_starts : (Int → Int)) (l1 : Int) (l2 : Int) (l3 : Int) : s_X8_containedMatches_23 0 a_starts l1 l2 l3 = none := rfl
noncomputable def s_X8_containedMatches_13 (fu : Nat) : Int → (Int → Int) → Int → Int → Option (Int) := Nat.rec (motive := fun _ => Int → (Int → Int) → Int → Int → Option (Int)) (fun _ _ _ _ => none) (fun _ ih x_streamed a_starts l1 l2 => cLt l2 x_streamed (bd1 (s_X8_containedMatches_23 FU a_starts l1 l2 1) (fun ez5 => ih x_streamed a_starts ez5 (l2 + 1))) (some l1)) fu
theorem s_X8_containedMatches_13_s (fu : Nat) (x_streamed : Int) (a_starts : (Int → Int)) (l1 : Int) (l2 : Int) : s_X8_containedMatches_13 (fu + 1) x_streamed a_starts l1 l2 = (cLt l2 x_streamed (bd1 (s_X8_containedMatches_23 FU a_starts l1 l2 1) (fun ez5 => (s_X8_containedMatches_13 fu) x_streamed a_starts ez5 (l2 + 1))) (some l1)) := rfl
theorem s_X8_containedMatches_13_z (x_streamed : Int) (a_starts : (Int → Int)) (l1 : Int) (l2 : Int) : s_X8_containedMatches_13 0 x_streamed a_starts l1 l2 = none := rfl
noncomputable def s_X8_containedMatches (x_thrown : Int) (x_given : Int) (x_isFolding : Int) (x_streamed : Int) (a_length : (Int → Int)) (a_bytes : (Int → Int)) (a_live : (Int → Int)) (a_stream : (Int → Int)) (a_starts : (Int → Int)) (a_keywordAt : (Int → Int)) : Option (Int × Int × (Int → Int) × (Int → Int)) := bd2 (s_X8_laysMatches x_given x_isFolding x_streamed a_length a_bytes a_live a_stream a_starts a_keywordAt) (fun vz1 vz2 => bd1 (s_X8_containedMatches_13 FU x_streamed vz1 0 0) (fun ez6 => some (ez6, 0, vz1, vz2)))
def rm_X8_containedMatches : Room := { frames := 5, cells := 0, slots := 0, locals := 114 }
set_option maxHeartbeats 4000000 in
set_option maxRecDepth 100000 in
theorem c_X8_containedMatches (l : Launch) (D : va_G) (cI cZ cJ : ClassId) {ad : Nat → Nat} {x_thrown : Int} {x_buffered : Int} {x_given : Int} {x_isFolding : Int} {x_work : Int} {x_rebuilt : Int} {x_streamed : Int} {x_reports : Int} {x_gapFrom : Int} {x_gapSize : Int} {x_elements : Int} {x_wholeSize : Int} {x_isLaid : Int} {x_takenMany : Int} {a_buffer : (Int → Int)} {a_length : (Int → Int)} {a_bytes : (Int → Int)} {a_weight : (Int → Int)} {a_live : (Int → Int)} {a_size : (Int → Int)} {a_list : (Int → Int)} {a_moved : (Int → Int)} {a_planned : (Int → Int)} {a_stream : (Int → Int)} {a_reportedEnd : (Int → Int)} {a_reportedKeyword : (Int → Int)} {a_starts : (Int → Int)} {a_keywordAt : (Int → Int)} {a_element : (Int → Int)} {a_long1 : (Int → Int)} {a_head : (Int → Int)} {a_tail : (Int → Int)} {a_next : (Int → Int)} {a_skip : (Int → Int)} {a_last : (Int → Int)} {a_whole : (Int → Int)} {a_edges : (Int → Int)} {a_covers : (Int → Int)} {a_weighs : (Int → Int)} {a_numbers : (Int → Int)} {a_takes : (Int → Int)} {a_takenAt : (Int → Int)} {r : Int} {y_x_thrown : Int} {y_a_starts : (Int → Int)} {y_a_keywordAt : (Int → Int)} {sz : Nat} (hs : s_X8_containedMatches x_thrown x_given x_isFolding x_streamed a_length a_bytes a_live a_stream a_starts a_keywordAt = some (r, y_x_thrown, y_a_starts, y_a_keywordAt)) : Met l yX8_containedMatches wsX8_containedMatches rm_X8_containedMatches (PW D vwCl [(cI, .int), (cZ, .boolean), (cJ, .long)] [.ref (ad 0)] (wM cI cZ cJ ad x_thrown x_buffered x_given x_isFolding x_work x_rebuilt x_streamed x_reports x_gapFrom x_gapSize x_elements x_wholeSize x_isLaid x_takenMany a_buffer a_length a_bytes a_weight a_live a_size a_list a_moved a_planned a_stream a_reportedEnd a_reportedKeyword a_starts a_keywordAt a_element a_long1 a_head a_tail a_next a_skip a_last a_whole a_edges a_covers a_weighs a_numbers a_takes a_takenAt) sz) (QW D vwCl (some (.int (iI r))) (wM cI cZ cJ ad y_x_thrown x_buffered x_given x_isFolding x_work x_rebuilt x_streamed x_reports x_gapFrom x_gapSize x_elements x_wholeSize x_isLaid x_takenMany a_buffer a_length a_bytes a_weight a_live a_size a_list a_moved a_planned a_stream a_reportedEnd a_reportedKeyword y_a_starts y_a_keywordAt a_element a_long1 a_head a_tail a_next a_skip a_last a_whole a_edges a_covers a_weighs a_numbers a_takes a_takenAt) (va_A (wM cI cZ cJ ad x_thrown x_buffered x_given x_isFolding x_work x_rebuilt x_streamed x_reports x_gapFrom x_gapSize x_elements x_wholeSize x_isLaid x_takenMany a_buffer a_length a_bytes a_weight a_live a_size a_list a_moved a_planned a_stream a_reportedEnd a_reportedKeyword a_starts a_keywordAt a_element a_long1 a_head a_tail a_next a_skip a_last a_whole a_edges a_covers a_weighs a_numbers a_takes a_takenAt) sz)) 0 0 (va_A (wM cI cZ cJ ad x_thrown x_buffered x_given x_isFolding x_work x_rebuilt x_streamed x_reports x_gapFrom x_gapSize x_elements x_wholeSize x_isLaid x_takenMany a_buffer a_length a_bytes a_weight a_live a_size a_list a_moved a_planned a_stream a_reportedEnd a_reportedKeyword a_starts a_keywordAt a_element a_long1 a_head a_tail a_next a_skip a_last a_whole a_edges a_covers a_weighs a_numbers a_takes a_takenAt) sz) := by
  refine Met.ofW (cc := cX8_containedMatches) (maxL := 4) (ret := (some .int)) (by decide) rfl ?_
  intro p e s m args below meth c s₁ B hml hv
  obtain ⟨hav, hsz, hP, hK, hD0⟩ := hv
  have hx := B.exec
  have hb := B.bytes
  have hr := B.returns
  have hts := atoms_spec (ws := wsX8_containedMatches) B.pre
  have hown : s.vm.findClass RX8 = some m.cls := findClass_of_methodNamed B.named
  have hlk := B.notSynchronized
  have hf1 : (Cond.fieldLink RX8 1 "KeywordMatcherModel" "thrown" "I").before args s = true := hts _ (List.mem_of_getElem? (i := 1) rfl)
  have hiX8 : ∀ w ∈ wsX80, w ∈ wsX8_containedMatches := fun w h => List.mem_cons_of_mem _ (List.mem_append_right _ h)
  have hf170 : (Cond.fieldLink RX8 170 "KeywordMatcherModel" "streamed" "I").before args s = true := hts _ (List.mem_of_getElem? (i := 2) rfl)
  subst hsz
  have hD := hD0.self (sz := s.heap.size)
  generalize hAe : va_A (wM cI cZ cJ ad x_thrown x_buffered x_given x_isFolding x_work x_rebuilt x_streamed x_reports x_gapFrom x_gapSize x_elements x_wholeSize x_isLaid x_takenMany a_buffer a_length a_bytes a_weight a_live a_size a_list a_moved a_planned a_stream a_reportedEnd a_reportedKeyword a_starts a_keywordAt a_element a_long1 a_head a_tail a_next a_skip a_last a_whole a_edges a_covers a_weighs a_numbers a_takes a_takenAt) s.heap.size = Az at hD ⊢
  have hA : ∀ q : Nat, s.heap.size ≤ q → Az q := fun q h => by rw [← hAe]; exact Or.inr h
  clear hAe
  have hSz : va_S Az s.heap s.heap [] := va_S.rf
  obtain ⟨wz, hw1⟩ : ∃ z : va_W, z = (wM cI cZ cJ ad y_x_thrown x_buffered x_given x_isFolding x_work x_rebuilt x_streamed x_reports x_gapFrom x_gapSize x_elements x_wholeSize x_isLaid x_takenMany a_buffer a_length a_bytes a_weight a_live a_size a_list a_moved a_planned a_stream a_reportedEnd a_reportedKeyword y_a_starts y_a_keywordAt a_element a_long1 a_head a_tail a_next a_skip a_last a_whole a_edges a_covers a_weighs a_numbers a_takes a_takenAt) := ⟨_, rfl⟩
  rw [← hw1]
  have hl := lv_entry ([.ref (ad 0)]) (n := 4) (Nat.le_of_ble_eq_true rfl)
  rw [show entryFrame m args 4 = entryFrame m ([.ref (ad 0)] : List Value).toArray 4 from by rw [hav], lg_entry_eq]
  generalize (lg_sl ([.ref (ad 0)]) ++ List.replicate (4 - (lg_sl ([.ref (ad 0)])).length) Slot.unset).toArray = ls at hl ⊢
  have hl : lv_has ls 4 [(0, .ref (ad 0))] := hl
  unfold s_X8_containedMatches at hs
  have Lz23 : ∀ (fu : Nat) (x_thrown : Int) (a_starts : (Int → Int)) (a_keywordAt : (Int → Int)) (l1 : Int) (l2 : Int) (l3 : Int) (y0 : Int), s_X8_containedMatches_23 fu a_starts l1 l2 l3 = some y0 → ∀ (Hz : Heap) (lz : List Loc), va_P D vwCl (wM cI cZ cJ ad x_thrown x_buffered x_given x_isFolding x_work x_rebuilt x_streamed x_reports x_gapFrom x_gapSize x_elements x_wholeSize x_isLaid x_takenMany a_buffer a_length a_bytes a_weight a_live a_size a_list a_moved a_planned a_stream a_reportedEnd a_reportedKeyword a_starts a_keywordAt a_element a_long1 a_head a_tail a_next a_skip a_last a_whole a_edges a_covers a_weighs a_numbers a_takes a_takenAt) Hz → va_D Az (wM cI cZ cJ ad x_thrown x_buffered x_given x_isFolding x_work x_rebuilt x_streamed x_reports x_gapFrom x_gapSize x_elements x_wholeSize x_isLaid x_takenMany a_buffer a_length a_bytes a_weight a_live a_size a_list a_moved a_planned a_stream a_reportedEnd a_reportedKeyword a_starts a_keywordAt a_element a_long1 a_head a_tail a_next a_skip a_last a_whole a_edges a_covers a_weighs a_numbers a_takes a_takenAt) → va_S Az s.heap Hz lz → ∀ ls : Array Slot, lv_has ls 4 [(0, .ref (ad 0)), (1, .int (iI l1)), (2, .int (iI l2)), (3, .int (iI l3))] → (∀ (Hz : Heap) (lz : List Loc), va_P D vwCl (wM cI cZ cJ ad x_thrown x_buffered x_given x_isFolding x_work x_rebuilt x_streamed x_reports x_gapFrom x_gapSize x_elements x_wholeSize x_isLaid x_takenMany a_buffer a_length a_bytes a_weight a_live a_size a_list a_moved a_planned a_stream a_reportedEnd a_reportedKeyword a_starts a_keywordAt a_element a_long1 a_head a_tail a_next a_skip a_last a_whole a_edges a_covers a_weighs a_numbers a_takes a_takenAt) Hz → va_D Az (wM cI cZ cJ ad x_thrown x_buffered x_given x_isFolding x_work x_rebuilt x_streamed x_reports x_gapFrom x_gapSize x_elements x_wholeSize x_isLaid x_takenMany a_buffer a_length a_bytes a_weight a_live a_size a_list a_moved a_planned a_stream a_reportedEnd a_reportedKeyword a_starts a_keywordAt a_element a_long1 a_head a_tail a_next a_skip a_last a_whole a_edges a_covers a_weighs a_numbers a_takes a_takenAt) → va_S Az s.heap Hz lz → ∀ ls : Array Slot, lv_has ls 4 [(0, .ref (ad 0)), (1, .int (iI y0)), (2, .int (iI l2))] → W p l e (headSpec wsX8_containedMatches rm_X8_containedMatches).room s m args below meth c Hz lz 0 0 (MQ below (QW D vwCl (some (.int (iI r))) wz Az) args s 0 0 Az) (F0 m 61 ls [])) → W p l e (headSpec wsX8_containedMatches rm_X8_containedMatches).room s m args below meth c Hz lz 0 0 (MQ below (QW D vwCl (some (.int (iI r))) wz Az) args s 0 0 Az) (F0 m 23 ls []) := by
    intro fu
    induction fu with
    | zero => intro x_thrown a_starts a_keywordAt l1 l2 l3 y0 hs; cases hs
    | succ fu ih =>
      intro x_thrown a_starts a_keywordAt l1 l2 l3 y0 hs Hz lz hP hD hSz ls hl kx
      rw [s_X8_containedMatches_23_s] at hs
      refine lv_iload_n hx hb dX8_containedMatches_23 rfl (lv_at hl 3 rfl) ?_
      refine k_bipush (n := 16) hx hb (by decide) dX8_containedMatches_24 ?_
      refine k_icmp_gt (tgt := 61) hx hb hs dX8_containedMatches_26 (by decide) (fun hs => ?_) (fun hs => ?_)
      · cases hs
        exact kx Hz lz hP hD hSz ls (lv_sub hl [0, 1, 2] rfl)
      · refine lv_iload_n hx hb dX8_containedMatches_29 rfl (lv_at hl 1 rfl) ?_
        refine lv_aload_n hx hb dX8_containedMatches_30 rfl (lv_at hl 0 rfl) ?_
        refine lv_iload_n hx hb dX8_containedMatches_31 rfl (lv_at hl 2 rfl) ?_
        refine lv_iload_n hx hb dX8_containedMatches_32 rfl (lv_at hl 3 rfl) ?_
        obtain ⟨vz3, hcz, hs⟩ := bd1_some hs
        refine k_rV (As := [.int (iI l2), .int (iI l3)]) (rest := [.int (iI l1)]) (st1 := [.int (iI vz3), .int (iI l1)]) ⟨hx, hb, hml, hown, hts⟩ hK hP (c_X8_hasAt l D cI cZ cJ hcz) (cwV 2 hts gX8_containedMatches_X8_hasAt rfl rfl rfl (by decide +kernel) ⟨Nat.le_of_ble_eq_true rfl, Nat.le_of_ble_eq_true rfl⟩) 0 rfl rfl rfl rfl hl.1 rfl (lv_room (Nat.le_of_ble_eq_true rfl)) dX8_containedMatches_33 ⟨Nat.zero_le _, Nat.zero_le _⟩ rfl ?_
        refine k_if_eq (tgt := 52) hx hb hs dX8_containedMatches_36 (by decide) (fun hs => ?_) (fun hs => ?_)
        · refine k_iconst (n := 0) hx hb dX8_containedMatches_52 ?_
          refine k_iadd hx hb dX8_containedMatches_53 ?_
          refine lv_istore_n (lv' := [(1, .int (iI (l1 + 0))), (0, .ref (ad 0)), (2, .int (iI l2)), (3, .int (iI l3))]) hx hb dX8_containedMatches_54 rfl hl (by decide) rfl (fun ls hl => ?_)
          refine k_iinc (x := l3) (k := 3) (lv' := [(3, .int (iI (l3 + 1))), (1, .int (iI (l1 + 0))), (0, .ref (ad 0)), (2, .int (iI l2))]) hx hb dX8_containedMatches_55 hl rfl (by decide) rfl (fun ls hl => ?_)
          refine lv_goto (tgt := 23) hx hb dX8_containedMatches_58 (by decide) ?_
          exact ih x_thrown a_starts a_keywordAt (l1 + 0) l2 (l3 + 1) y0 hs Hz lz hP hD hSz ls (lv_sub hl [2, 1, 3, 0] rfl) kx
        · refine lv_aload_n hx hb dX8_containedMatches_39 rfl (lv_at hl 0 rfl) ?_
          refine lv_iload_n hx hb dX8_containedMatches_40 rfl (lv_at hl 2 rfl) ?_
          refine lv_iload_n hx hb dX8_containedMatches_41 rfl (lv_at hl 3 rfl) ?_
          obtain ⟨vz4, hcz, hs⟩ := bd1_some hs
          refine k_rV (As := [.int (iI l2), .int (iI l3)]) (rest := [.int (iI l1)]) (st1 := [.int (iI vz4), .int (iI l1)]) ⟨hx, hb, hml, hown, hts⟩ hK hP (c_X8_isContained l D cI cZ cJ hcz) (cwV 2 hts gX8_containedMatches_X8_isContained rfl rfl rfl (by decide +kernel) ⟨Nat.le_of_ble_eq_true rfl, Nat.le_of_ble_eq_true rfl⟩) 0 rfl rfl rfl rfl hl.1 rfl (lv_room (Nat.le_of_ble_eq_true rfl)) dX8_containedMatches_42 ⟨Nat.zero_le _, Nat.zero_le _⟩ rfl ?_
          refine k_if_eq (tgt := 52) hx hb hs dX8_containedMatches_45 (by decide) (fun hs => ?_) (fun hs => ?_)
          · refine k_iconst (n := 0) hx hb dX8_containedMatches_52 ?_
            refine k_iadd hx hb dX8_containedMatches_53 ?_
            refine lv_istore_n (lv' := [(1, .int (iI (l1 + 0))), (0, .ref (ad 0)), (2, .int (iI l2)), (3, .int (iI l3))]) hx hb dX8_containedMatches_54 rfl hl (by decide) rfl (fun ls hl => ?_)
            refine k_iinc (x := l3) (k := 3) (lv' := [(3, .int (iI (l3 + 1))), (1, .int (iI (l1 + 0))), (0, .ref (ad 0)), (2, .int (iI l2))]) hx hb dX8_containedMatches_55 hl rfl (by decide) rfl (fun ls hl => ?_)
            refine lv_goto (tgt := 23) hx hb dX8_containedMatches_58 (by decide) ?_
            exact ih x_thrown a_starts a_keywordAt (l1 + 0) l2 (l3 + 1) y0 hs Hz lz hP hD hSz ls (lv_sub hl [2, 1, 3, 0] rfl) kx
          · refine k_iconst (n := 1) hx hb dX8_containedMatches_48 ?_
            refine lv_goto (tgt := 53) hx hb dX8_containedMatches_49 (by decide) ?_
            refine k_iadd hx hb dX8_containedMatches_53 ?_
            refine lv_istore_n (lv' := [(1, .int (iI (l1 + 1))), (0, .ref (ad 0)), (2, .int (iI l2)), (3, .int (iI l3))]) hx hb dX8_containedMatches_54 rfl hl (by decide) rfl (fun ls hl => ?_)
            refine k_iinc (x := l3) (k := 3) (lv' := [(3, .int (iI (l3 + 1))), (1, .int (iI (l1 + 1))), (0, .ref (ad 0)), (2, .int (iI l2))]) hx hb dX8_containedMatches_55 hl rfl (by decide) rfl (fun ls hl => ?_)
            refine lv_goto (tgt := 23) hx hb dX8_containedMatches_58 (by decide) ?_
            exact ih x_thrown a_starts a_keywordAt (l1 + 1) l2 (l3 + 1) y0 hs Hz lz hP hD hSz ls (lv_sub hl [2, 1, 3, 0] rfl) kx
  have Lz13 : ∀ (fu : Nat) (x_thrown : Int) (a_starts : (Int → Int)) (a_keywordAt : (Int → Int)) (l1 : Int) (l2 : Int) (y0 : Int), s_X8_containedMatches_13 fu x_streamed a_starts l1 l2 = some y0 → ∀ (Hz : Heap) (lz : List Loc), va_P D vwCl (wM cI cZ cJ ad x_thrown x_buffered x_given x_isFolding x_work x_rebuilt x_streamed x_reports x_gapFrom x_gapSize x_elements x_wholeSize x_isLaid x_takenMany a_buffer a_length a_bytes a_weight a_live a_size a_list a_moved a_planned a_stream a_reportedEnd a_reportedKeyword a_starts a_keywordAt a_element a_long1 a_head a_tail a_next a_skip a_last a_whole a_edges a_covers a_weighs a_numbers a_takes a_takenAt) Hz → va_D Az (wM cI cZ cJ ad x_thrown x_buffered x_given x_isFolding x_work x_rebuilt x_streamed x_reports x_gapFrom x_gapSize x_elements x_wholeSize x_isLaid x_takenMany a_buffer a_length a_bytes a_weight a_live a_size a_list a_moved a_planned a_stream a_reportedEnd a_reportedKeyword a_starts a_keywordAt a_element a_long1 a_head a_tail a_next a_skip a_last a_whole a_edges a_covers a_weighs a_numbers a_takes a_takenAt) → va_S Az s.heap Hz lz → ∀ ls : Array Slot, lv_has ls 4 [(0, .ref (ad 0)), (1, .int (iI l1)), (2, .int (iI l2))] → (∀ (Hz : Heap) (lz : List Loc), va_P D vwCl (wM cI cZ cJ ad x_thrown x_buffered x_given x_isFolding x_work x_rebuilt x_streamed x_reports x_gapFrom x_gapSize x_elements x_wholeSize x_isLaid x_takenMany a_buffer a_length a_bytes a_weight a_live a_size a_list a_moved a_planned a_stream a_reportedEnd a_reportedKeyword a_starts a_keywordAt a_element a_long1 a_head a_tail a_next a_skip a_last a_whole a_edges a_covers a_weighs a_numbers a_takes a_takenAt) Hz → va_D Az (wM cI cZ cJ ad x_thrown x_buffered x_given x_isFolding x_work x_rebuilt x_streamed x_reports x_gapFrom x_gapSize x_elements x_wholeSize x_isLaid x_takenMany a_buffer a_length a_bytes a_weight a_live a_size a_list a_moved a_planned a_stream a_reportedEnd a_reportedKeyword a_starts a_keywordAt a_element a_long1 a_head a_tail a_next a_skip a_last a_whole a_edges a_covers a_weighs a_numbers a_takes a_takenAt) → va_S Az s.heap Hz lz → ∀ ls : Array Slot, lv_has ls 4 [(1, .int (iI y0))] → W p l e (headSpec wsX8_containedMatches rm_X8_containedMatches).room s m args below meth c Hz lz 0 0 (MQ below (QW D vwCl (some (.int (iI r))) wz Az) args s 0 0 Az) (F0 m 67 ls [])) → W p l e (headSpec wsX8_containedMatches rm_X8_containedMatches).room s m args below meth c Hz lz 0 0 (MQ below (QW D vwCl (some (.int (iI r))) wz Az) args s 0 0 Az) (F0 m 13 ls []) := by
    intro fu
    induction fu with
    | zero => intro x_thrown a_starts a_keywordAt l1 l2 y0 hs; cases hs
    | succ fu ih =>
      intro x_thrown a_starts a_keywordAt l1 l2 y0 hs Hz lz hP hD hSz ls hl kx
      rw [s_X8_containedMatches_13_s] at hs
      refine lv_iload_n hx hb dX8_containedMatches_13 rfl (lv_at hl 2 rfl) ?_
      refine lv_aload_n hx hb dX8_containedMatches_14 rfl (lv_at hl 0 rfl) ?_
      refine va_get (ci := 8) (v := .int (iI x_streamed)) (C := RX8) (T := TX8) (N := 42) hx hb hts hiX8 hown hK hP 0 rfl rfl 18 (by decide) hf170 (fun _ h9 => h9) rfl dX8_containedMatches_15 ?_
      refine k_icmp_ge (tgt := 67) hx hb hs dX8_containedMatches_18 (by decide) (fun hs => ?_) (fun hs => ?_)
      · refine k_iconst (n := 1) hx hb dX8_containedMatches_21 ?_
        refine lv_istore_n (lv' := [(3, .int (iI 1)), (0, .ref (ad 0)), (1, .int (iI l1)), (2, .int (iI l2))]) hx hb dX8_containedMatches_22 rfl hl (by decide) rfl (fun ls hl => ?_)
        obtain ⟨ez5, hq, hs⟩ := bd1_some hs
        refine Lz23 FU x_thrown a_starts a_keywordAt l1 l2 1 ez5 hq Hz lz hP hD hSz ls (lv_sub hl [1, 2, 3, 0] rfl) ?_
        intro Hz lz hP hD hSz ls hl
        refine k_iinc (x := l2) (k := 2) (lv' := [(2, .int (iI (l2 + 1))), (0, .ref (ad 0)), (1, .int (iI ez5))]) hx hb dX8_containedMatches_61 hl rfl (by decide) rfl (fun ls hl => ?_)
        refine lv_goto (tgt := 13) hx hb dX8_containedMatches_64 (by decide) ?_
        exact ih x_thrown a_starts a_keywordAt ez5 (l2 + 1) y0 hs Hz lz hP hD hSz ls (lv_sub hl [1, 2, 0] rfl) kx
      · cases hs
        exact kx Hz lz hP hD hSz ls (lv_sub hl [1] rfl)
  refine (?_ : ∀ (Hz : Heap) (lz : List Loc), va_P D vwCl (wM cI cZ cJ ad x_thrown x_buffered x_given x_isFolding x_work x_rebuilt x_streamed x_reports x_gapFrom x_gapSize x_elements x_wholeSize x_isLaid x_takenMany a_buffer a_length a_bytes a_weight a_live a_size a_list a_moved a_planned a_stream a_reportedEnd a_reportedKeyword a_starts a_keywordAt a_element a_long1 a_head a_tail a_next a_skip a_last a_whole a_edges a_covers a_weighs a_numbers a_takes a_takenAt) Hz → va_D Az (wM cI cZ cJ ad x_thrown x_buffered x_given x_isFolding x_work x_rebuilt x_streamed x_reports x_gapFrom x_gapSize x_elements x_wholeSize x_isLaid x_takenMany a_buffer a_length a_bytes a_weight a_live a_size a_list a_moved a_planned a_stream a_reportedEnd a_reportedKeyword a_starts a_keywordAt a_element a_long1 a_head a_tail a_next a_skip a_last a_whole a_edges a_covers a_weighs a_numbers a_takes a_takenAt) → va_S Az s.heap Hz lz → W p l e (headSpec wsX8_containedMatches rm_X8_containedMatches).room s m args below meth c Hz lz 0 0 (MQ below (QW D vwCl (some (.int (iI r))) wz Az) args s 0 0 Az) (F0 m 0 ls [])) s.heap [] hP hD hSz
  intro Hz lz hP hD hSz
  refine lv_aload_n hx hb dX8_containedMatches_0 rfl (lv_at hl 0 rfl) ?_
  refine k_iconst (n := 0) hx hb dX8_containedMatches_1 ?_
  refine va_put (ci := 8) (v := .int (iI 0)) (ty := .int) (C := RX8) (T := TX8) (N := 42) hx hb hts hiX8 tyX8 tyX8_ok nmX8 hown hK hP hD hSz 0 rfl rfl 0 (by decide) hf1 (fun _ h9 => h9) rfl (by decide +kernel) rfl rfl (Nat.le_of_ble_eq_true rfl) dX8_containedMatches_2 (fun Hz lz hP hD hSz => ?_)
  have hP : va_P D vwCl (wM cI cZ cJ ad 0 x_buffered x_given x_isFolding x_work x_rebuilt x_streamed x_reports x_gapFrom x_gapSize x_elements x_wholeSize x_isLaid x_takenMany a_buffer a_length a_bytes a_weight a_live a_size a_list a_moved a_planned a_stream a_reportedEnd a_reportedKeyword a_starts a_keywordAt a_element a_long1 a_head a_tail a_next a_skip a_last a_whole a_edges a_covers a_weighs a_numbers a_takes a_takenAt) Hz := hP
  have hD : va_D Az (wM cI cZ cJ ad 0 x_buffered x_given x_isFolding x_work x_rebuilt x_streamed x_reports x_gapFrom x_gapSize x_elements x_wholeSize x_isLaid x_takenMany a_buffer a_length a_bytes a_weight a_live a_size a_list a_moved a_planned a_stream a_reportedEnd a_reportedKeyword a_starts a_keywordAt a_element a_long1 a_head a_tail a_next a_skip a_last a_whole a_edges a_covers a_weighs a_numbers a_takes a_takenAt) := hD
  refine lv_aload_n hx hb dX8_containedMatches_5 rfl (lv_at hl 0 rfl) ?_
  obtain ⟨vz1, vz2, hcz, hs⟩ := bd2_some hs
  refine k_wVs (As := []) (rest := []) (st1 := []) (w1 := (wM cI cZ cJ ad 0 x_buffered x_given x_isFolding x_work x_rebuilt x_streamed x_reports x_gapFrom x_gapSize x_elements x_wholeSize x_isLaid x_takenMany a_buffer a_length a_bytes a_weight a_live a_size a_list a_moved a_planned a_stream a_reportedEnd a_reportedKeyword vz1 vz2 a_element a_long1 a_head a_tail a_next a_skip a_last a_whole a_edges a_covers a_weighs a_numbers a_takes a_takenAt)) ⟨hx, hb, hml, hown, hts⟩ hK hP hD hSz hA (c_X8_laysMatches l D cI cZ cJ hcz) (cwV 0 hts gX8_containedMatches_X8_laysMatches rfl rfl rfl (by decide +kernel) ⟨Nat.le_of_ble_eq_true rfl, Nat.le_of_ble_eq_true rfl⟩) 0 rfl rfl rfl rfl rfl hl.1 rfl (lv_room (Nat.le_of_ble_eq_true rfl)) dX8_containedMatches_6 ⟨Nat.zero_le _, Nat.zero_le _⟩ rfl (fun Hz lz hP hD hSz => ?_)
  have hP : va_P D vwCl (wM cI cZ cJ ad 0 x_buffered x_given x_isFolding x_work x_rebuilt x_streamed x_reports x_gapFrom x_gapSize x_elements x_wholeSize x_isLaid x_takenMany a_buffer a_length a_bytes a_weight a_live a_size a_list a_moved a_planned a_stream a_reportedEnd a_reportedKeyword vz1 vz2 a_element a_long1 a_head a_tail a_next a_skip a_last a_whole a_edges a_covers a_weighs a_numbers a_takes a_takenAt) Hz := hP
  have hD : va_D Az (wM cI cZ cJ ad 0 x_buffered x_given x_isFolding x_work x_rebuilt x_streamed x_reports x_gapFrom x_gapSize x_elements x_wholeSize x_isLaid x_takenMany a_buffer a_length a_bytes a_weight a_live a_size a_list a_moved a_planned a_stream a_reportedEnd a_reportedKeyword vz1 vz2 a_element a_long1 a_head a_tail a_next a_skip a_last a_whole a_edges a_covers a_weighs a_numbers a_takes a_takenAt) := hD
  refine k_iconst (n := 0) hx hb dX8_containedMatches_9 ?_
  refine lv_istore_n (lv' := [(1, .int (iI 0)), (0, .ref (ad 0))]) hx hb dX8_containedMatches_10 rfl hl (by decide) rfl (fun ls hl => ?_)
  refine k_iconst (n := 0) hx hb dX8_containedMatches_11 ?_
  refine lv_istore_n (lv' := [(2, .int (iI 0)), (1, .int (iI 0)), (0, .ref (ad 0))]) hx hb dX8_containedMatches_12 rfl hl (by decide) rfl (fun ls hl => ?_)
  obtain ⟨ez6, hq, hs⟩ := bd1_some hs
  refine Lz13 FU 0 vz1 vz2 0 0 ez6 hq Hz lz hP hD hSz ls (lv_sub hl [2, 1, 0] rfl) ?_
  intro Hz lz hP hD hSz ls hl
  refine lv_iload_n hx hb dX8_containedMatches_67 rfl (lv_at hl 0 rfl) ?_
  cases hs
  exact k_iret_w hx hb hr hlk (by rw [hw1]; exact hP) hSz dX8_containedMatches_68 rfl
/-! X8_laysGap -/
noncomputable def s_X8_laysGap_31 (fu : Nat) : (Int → Int) → Int → Int → Int → Int → Option (Int) := Nat.rec (motive := fun _ => (Int → Int) → Int → Int → Int → Int → Option (Int)) (fun _ _ _ _ _ => none) (fun _ ih a_starts l1 l2 l3 l4 => cLt 16 l4 (some l1) (bd1 (s_X8_hasAt a_starts l3 l4) (fun vz3 => cEq vz3 0 (ih a_starts l1 l2 l3 (l4 + 1)) (cLt l1 (l3 + l4) (ih a_starts (l3 + l4) l2 l3 (l4 + 1)) (ih a_starts l1 l2 l3 (l4 + 1)))))) fu
theorem s_X8_laysGap_31_s (fu : Nat) (a_starts : (Int → Int)) (l1 : Int) (l2 : Int) (l3 : Int) (l4 : Int) : s_X8_laysGap_31 (fu + 1) a_starts l1 l2 l3 l4 = (cLt 16 l4 (some l1) (bd1 (s_X8_hasAt a_starts l3 l4) (fun vz3 => cEq vz3 0 (s_X8_laysGap_31 fu a_starts l1 l2 l3 (l4 + 1)) (cLt l1 (l3 + l4) (s_X8_laysGap_31 fu a_starts (l3 + l4) l2 l3 (l4 + 1)) (s_X8_laysGap_31 fu a_starts l1 l2 l3 (l4 + 1)))))) := rfl
theorem s_X8_laysGap_31_z (a_starts : (Int → Int)) (l1 : Int) (l2 : Int) (l3 : Int) (l4 : Int) : s_X8_laysGap_31 0 a_starts l1 l2 l3 l4 = none := rfl
noncomputable def s_X8_laysGap_20 (fu : Nat) : Int → Int → Int → (Int → Int) → Int → Int → Int → Option (Int × Int) := Nat.rec (motive := fun _ => Int → Int → Int → (Int → Int) → Int → Int → Int → Option (Int × Int)) (fun _ _ _ _ _ _ _ => none) (fun _ ih x_streamed x_gapFrom x_gapSize a_starts l1 l2 l3 => cLt l3 x_streamed (bd1 (s_X8_laysGap_31 FU a_starts l1 l2 l3 1) (fun ez4 => cLt l3 ez4 (cLt x_gapSize ((l3 + 1) - (l3 + 1)) (ih x_streamed (l3 + 1) ((l3 + 1) - (l3 + 1)) a_starts ez4 (l3 + 1) (l3 + 1)) (ih x_streamed x_gapFrom x_gapSize a_starts ez4 (l3 + 1) (l3 + 1))) (cLt x_gapSize ((l3 + 1) - l2) (ih x_streamed l2 ((l3 + 1) - l2) a_starts ez4 l2 (l3 + 1)) (ih x_streamed x_gapFrom x_gapSize a_starts ez4 l2 (l3 + 1))))) (some (x_gapFrom, x_gapSize))) fu
theorem s_X8_laysGap_20_s (fu : Nat) (x_streamed : Int) (x_gapFrom : Int) (x_gapSize : Int) (a_starts : (Int → Int)) (l1 : Int) (l2 : Int) (l3 : Int) : s_X8_laysGap_20 (fu + 1) x_streamed x_gapFrom x_gapSize a_starts l1 l2 l3 = (cLt l3 x_streamed (bd1 (s_X8_laysGap_31 FU a_starts l1 l2 l3 1) (fun ez4 => cLt l3 ez4 (cLt x_gapSize ((l3 + 1) - (l3 + 1)) (s_X8_laysGap_20 fu x_streamed (l3 + 1) ((l3 + 1) - (l3 + 1)) a_starts ez4 (l3 + 1) (l3 + 1)) (s_X8_laysGap_20 fu x_streamed x_gapFrom x_gapSize a_starts ez4 (l3 + 1) (l3 + 1))) (cLt x_gapSize ((l3 + 1) - l2) (s_X8_laysGap_20 fu x_streamed l2 ((l3 + 1) - l2) a_starts ez4 l2 (l3 + 1)) (s_X8_laysGap_20 fu x_streamed x_gapFrom x_gapSize a_starts ez4 l2 (l3 + 1))))) (some (x_gapFrom, x_gapSize))) := rfl
theorem s_X8_laysGap_20_z (x_streamed : Int) (x_gapFrom : Int) (x_gapSize : Int) (a_starts : (Int → Int)) (l1 : Int) (l2 : Int) (l3 : Int) : s_X8_laysGap_20 0 x_streamed x_gapFrom x_gapSize a_starts l1 l2 l3 = none := rfl
noncomputable def s_X8_laysGap (x_given : Int) (x_isFolding : Int) (x_streamed : Int) (x_gapFrom : Int) (x_gapSize : Int) (a_length : (Int → Int)) (a_bytes : (Int → Int)) (a_live : (Int → Int)) (a_stream : (Int → Int)) (a_starts : (Int → Int)) (a_keywordAt : (Int → Int)) : Option (Int × Int × (Int → Int) × (Int → Int)) := bd2 (s_X8_laysMatches x_given x_isFolding x_streamed a_length a_bytes a_live a_stream a_starts a_keywordAt) (fun vz1 vz2 => bd2 (s_X8_laysGap_20 FU x_streamed (-1) 0 vz1 0 0 0) (fun ez5 ez6 => some (ez5, ez6, vz1, vz2)))
def rm_X8_laysGap : Room := { frames := 5, cells := 0, slots := 0, locals := 114 }
set_option maxHeartbeats 4000000 in
set_option maxRecDepth 100000 in
theorem c_X8_laysGap (l : Launch) (D : va_G) (cI cZ cJ : ClassId) {ad : Nat → Nat} {x_thrown : Int} {x_buffered : Int} {x_given : Int} {x_isFolding : Int} {x_work : Int} {x_rebuilt : Int} {x_streamed : Int} {x_reports : Int} {x_gapFrom : Int} {x_gapSize : Int} {x_elements : Int} {x_wholeSize : Int} {x_isLaid : Int} {x_takenMany : Int} {a_buffer : (Int → Int)} {a_length : (Int → Int)} {a_bytes : (Int → Int)} {a_weight : (Int → Int)} {a_live : (Int → Int)} {a_size : (Int → Int)} {a_list : (Int → Int)} {a_moved : (Int → Int)} {a_planned : (Int → Int)} {a_stream : (Int → Int)} {a_reportedEnd : (Int → Int)} {a_reportedKeyword : (Int → Int)} {a_starts : (Int → Int)} {a_keywordAt : (Int → Int)} {a_element : (Int → Int)} {a_long1 : (Int → Int)} {a_head : (Int → Int)} {a_tail : (Int → Int)} {a_next : (Int → Int)} {a_skip : (Int → Int)} {a_last : (Int → Int)} {a_whole : (Int → Int)} {a_edges : (Int → Int)} {a_covers : (Int → Int)} {a_weighs : (Int → Int)} {a_numbers : (Int → Int)} {a_takes : (Int → Int)} {a_takenAt : (Int → Int)} {y_x_gapFrom : Int} {y_x_gapSize : Int} {y_a_starts : (Int → Int)} {y_a_keywordAt : (Int → Int)} {sz : Nat} (hs : s_X8_laysGap x_given x_isFolding x_streamed x_gapFrom x_gapSize a_length a_bytes a_live a_stream a_starts a_keywordAt = some (y_x_gapFrom, y_x_gapSize, y_a_starts, y_a_keywordAt)) : Met l yX8_laysGap wsX8_laysGap rm_X8_laysGap (PW D vwCl [(cI, .int), (cZ, .boolean), (cJ, .long)] [.ref (ad 0)] (wM cI cZ cJ ad x_thrown x_buffered x_given x_isFolding x_work x_rebuilt x_streamed x_reports x_gapFrom x_gapSize x_elements x_wholeSize x_isLaid x_takenMany a_buffer a_length a_bytes a_weight a_live a_size a_list a_moved a_planned a_stream a_reportedEnd a_reportedKeyword a_starts a_keywordAt a_element a_long1 a_head a_tail a_next a_skip a_last a_whole a_edges a_covers a_weighs a_numbers a_takes a_takenAt) sz) (QW D vwCl none (wM cI cZ cJ ad x_thrown x_buffered x_given x_isFolding x_work x_rebuilt x_streamed x_reports y_x_gapFrom y_x_gapSize x_elements x_wholeSize x_isLaid x_takenMany a_buffer a_length a_bytes a_weight a_live a_size a_list a_moved a_planned a_stream a_reportedEnd a_reportedKeyword y_a_starts y_a_keywordAt a_element a_long1 a_head a_tail a_next a_skip a_last a_whole a_edges a_covers a_weighs a_numbers a_takes a_takenAt) (va_A (wM cI cZ cJ ad x_thrown x_buffered x_given x_isFolding x_work x_rebuilt x_streamed x_reports x_gapFrom x_gapSize x_elements x_wholeSize x_isLaid x_takenMany a_buffer a_length a_bytes a_weight a_live a_size a_list a_moved a_planned a_stream a_reportedEnd a_reportedKeyword a_starts a_keywordAt a_element a_long1 a_head a_tail a_next a_skip a_last a_whole a_edges a_covers a_weighs a_numbers a_takes a_takenAt) sz)) 0 0 (va_A (wM cI cZ cJ ad x_thrown x_buffered x_given x_isFolding x_work x_rebuilt x_streamed x_reports x_gapFrom x_gapSize x_elements x_wholeSize x_isLaid x_takenMany a_buffer a_length a_bytes a_weight a_live a_size a_list a_moved a_planned a_stream a_reportedEnd a_reportedKeyword a_starts a_keywordAt a_element a_long1 a_head a_tail a_next a_skip a_last a_whole a_edges a_covers a_weighs a_numbers a_takes a_takenAt) sz) := by
  refine Met.ofW (cc := cX8_laysGap) (maxL := 5) (ret := none) (by decide) rfl ?_
  intro p e s m args below meth c s₁ B hml hv
  obtain ⟨hav, hsz, hP, hK, hD0⟩ := hv
  have hx := B.exec
  have hb := B.bytes
  have hr := B.returns
  have hts := atoms_spec (ws := wsX8_laysGap) B.pre
  have hown : s.vm.findClass RX8 = some m.cls := findClass_of_methodNamed B.named
  have hlk := B.notSynchronized
  have hf221 : (Cond.fieldLink RX8 221 "KeywordMatcherModel" "gapFrom" "I").before args s = true := hts _ (List.mem_of_getElem? (i := 1) rfl)
  have hiX8 : ∀ w ∈ wsX80, w ∈ wsX8_laysGap := fun w h => List.mem_cons_of_mem _ (List.mem_append_right _ h)
  have hf224 : (Cond.fieldLink RX8 224 "KeywordMatcherModel" "gapSize" "I").before args s = true := hts _ (List.mem_of_getElem? (i := 2) rfl)
  have hf170 : (Cond.fieldLink RX8 170 "KeywordMatcherModel" "streamed" "I").before args s = true := hts _ (List.mem_of_getElem? (i := 3) rfl)
  subst hsz
  have hD := hD0.self (sz := s.heap.size)
  generalize hAe : va_A (wM cI cZ cJ ad x_thrown x_buffered x_given x_isFolding x_work x_rebuilt x_streamed x_reports x_gapFrom x_gapSize x_elements x_wholeSize x_isLaid x_takenMany a_buffer a_length a_bytes a_weight a_live a_size a_list a_moved a_planned a_stream a_reportedEnd a_reportedKeyword a_starts a_keywordAt a_element a_long1 a_head a_tail a_next a_skip a_last a_whole a_edges a_covers a_weighs a_numbers a_takes a_takenAt) s.heap.size = Az at hD ⊢
  have hA : ∀ q : Nat, s.heap.size ≤ q → Az q := fun q h => by rw [← hAe]; exact Or.inr h
  clear hAe
  have hSz : va_S Az s.heap s.heap [] := va_S.rf
  obtain ⟨wz, hw1⟩ : ∃ z : va_W, z = (wM cI cZ cJ ad x_thrown x_buffered x_given x_isFolding x_work x_rebuilt x_streamed x_reports y_x_gapFrom y_x_gapSize x_elements x_wholeSize x_isLaid x_takenMany a_buffer a_length a_bytes a_weight a_live a_size a_list a_moved a_planned a_stream a_reportedEnd a_reportedKeyword y_a_starts y_a_keywordAt a_element a_long1 a_head a_tail a_next a_skip a_last a_whole a_edges a_covers a_weighs a_numbers a_takes a_takenAt) := ⟨_, rfl⟩
  rw [← hw1]
  have hl := lv_entry ([.ref (ad 0)]) (n := 5) (Nat.le_of_ble_eq_true rfl)
  rw [show entryFrame m args 5 = entryFrame m ([.ref (ad 0)] : List Value).toArray 5 from by rw [hav], lg_entry_eq]
  generalize (lg_sl ([.ref (ad 0)]) ++ List.replicate (5 - (lg_sl ([.ref (ad 0)])).length) Slot.unset).toArray = ls at hl ⊢
  have hl : lv_has ls 5 [(0, .ref (ad 0))] := hl
  unfold s_X8_laysGap at hs
  have Lz31 : ∀ (fu : Nat) (x_gapFrom : Int) (x_gapSize : Int) (a_starts : (Int → Int)) (a_keywordAt : (Int → Int)) (l1 : Int) (l2 : Int) (l3 : Int) (l4 : Int) (y0 : Int), s_X8_laysGap_31 fu a_starts l1 l2 l3 l4 = some y0 → ∀ (Hz : Heap) (lz : List Loc), va_P D vwCl (wM cI cZ cJ ad x_thrown x_buffered x_given x_isFolding x_work x_rebuilt x_streamed x_reports x_gapFrom x_gapSize x_elements x_wholeSize x_isLaid x_takenMany a_buffer a_length a_bytes a_weight a_live a_size a_list a_moved a_planned a_stream a_reportedEnd a_reportedKeyword a_starts a_keywordAt a_element a_long1 a_head a_tail a_next a_skip a_last a_whole a_edges a_covers a_weighs a_numbers a_takes a_takenAt) Hz → va_D Az (wM cI cZ cJ ad x_thrown x_buffered x_given x_isFolding x_work x_rebuilt x_streamed x_reports x_gapFrom x_gapSize x_elements x_wholeSize x_isLaid x_takenMany a_buffer a_length a_bytes a_weight a_live a_size a_list a_moved a_planned a_stream a_reportedEnd a_reportedKeyword a_starts a_keywordAt a_element a_long1 a_head a_tail a_next a_skip a_last a_whole a_edges a_covers a_weighs a_numbers a_takes a_takenAt) → va_S Az s.heap Hz lz → ∀ ls : Array Slot, lv_has ls 5 [(0, .ref (ad 0)), (1, .int (iI l1)), (2, .int (iI l2)), (3, .int (iI l3)), (4, .int (iI l4))] → (∀ (Hz : Heap) (lz : List Loc), va_P D vwCl (wM cI cZ cJ ad x_thrown x_buffered x_given x_isFolding x_work x_rebuilt x_streamed x_reports x_gapFrom x_gapSize x_elements x_wholeSize x_isLaid x_takenMany a_buffer a_length a_bytes a_weight a_live a_size a_list a_moved a_planned a_stream a_reportedEnd a_reportedKeyword a_starts a_keywordAt a_element a_long1 a_head a_tail a_next a_skip a_last a_whole a_edges a_covers a_weighs a_numbers a_takes a_takenAt) Hz → va_D Az (wM cI cZ cJ ad x_thrown x_buffered x_given x_isFolding x_work x_rebuilt x_streamed x_reports x_gapFrom x_gapSize x_elements x_wholeSize x_isLaid x_takenMany a_buffer a_length a_bytes a_weight a_live a_size a_list a_moved a_planned a_stream a_reportedEnd a_reportedKeyword a_starts a_keywordAt a_element a_long1 a_head a_tail a_next a_skip a_last a_whole a_edges a_covers a_weighs a_numbers a_takes a_takenAt) → va_S Az s.heap Hz lz → ∀ ls : Array Slot, lv_has ls 5 [(0, .ref (ad 0)), (1, .int (iI y0)), (2, .int (iI l2)), (3, .int (iI l3))] → W p l e (headSpec wsX8_laysGap rm_X8_laysGap).room s m args below meth c Hz lz 0 0 (MQ below (QW D vwCl none wz Az) args s 0 0 Az) (F0 m 67 ls [])) → W p l e (headSpec wsX8_laysGap rm_X8_laysGap).room s m args below meth c Hz lz 0 0 (MQ below (QW D vwCl none wz Az) args s 0 0 Az) (F0 m 31 ls []) := by
    intro fu
    induction fu with
    | zero => intro x_gapFrom x_gapSize a_starts a_keywordAt l1 l2 l3 l4 y0 hs; cases hs
    | succ fu ih =>
      intro x_gapFrom x_gapSize a_starts a_keywordAt l1 l2 l3 l4 y0 hs Hz lz hP hD hSz ls hl kx
      rw [s_X8_laysGap_31_s] at hs
      refine lv_iload hx hb dX8_laysGap_31 (lv_at hl 4 rfl) ?_
      refine k_bipush (n := 16) hx hb (by decide) dX8_laysGap_33 ?_
      refine k_icmp_gt (tgt := 67) hx hb hs dX8_laysGap_35 (by decide) (fun hs => ?_) (fun hs => ?_)
      · cases hs
        exact kx Hz lz hP hD hSz ls (lv_sub hl [0, 1, 2, 3] rfl)
      · refine lv_aload_n hx hb dX8_laysGap_38 rfl (lv_at hl 0 rfl) ?_
        refine lv_iload_n hx hb dX8_laysGap_39 rfl (lv_at hl 3 rfl) ?_
        refine lv_iload hx hb dX8_laysGap_40 (lv_at hl 4 rfl) ?_
        obtain ⟨vz3, hcz, hs⟩ := bd1_some hs
        refine k_rV (As := [.int (iI l3), .int (iI l4)]) (rest := []) (st1 := [.int (iI vz3)]) ⟨hx, hb, hml, hown, hts⟩ hK hP (c_X8_hasAt l D cI cZ cJ hcz) (cwV 2 hts gX8_laysGap_X8_hasAt rfl rfl rfl (by decide +kernel) ⟨Nat.le_of_ble_eq_true rfl, Nat.le_of_ble_eq_true rfl⟩) 0 rfl rfl rfl rfl hl.1 rfl (lv_room (Nat.le_of_ble_eq_true rfl)) dX8_laysGap_42 ⟨Nat.zero_le _, Nat.zero_le _⟩ rfl ?_
        refine k_if_eq (tgt := 61) hx hb hs dX8_laysGap_45 (by decide) (fun hs => ?_) (fun hs => ?_)
        · refine k_iinc (x := l4) (k := 4) (lv' := [(4, .int (iI (l4 + 1))), (0, .ref (ad 0)), (1, .int (iI l1)), (2, .int (iI l2)), (3, .int (iI l3))]) hx hb dX8_laysGap_61 hl rfl (by decide) rfl (fun ls hl => ?_)
          refine lv_goto (tgt := 31) hx hb dX8_laysGap_64 (by decide) ?_
          exact ih x_gapFrom x_gapSize a_starts a_keywordAt l1 l2 l3 (l4 + 1) y0 hs Hz lz hP hD hSz ls (lv_sub hl [1, 2, 3, 4, 0] rfl) kx
        · refine lv_iload_n hx hb dX8_laysGap_48 rfl (lv_at hl 3 rfl) ?_
          refine lv_iload hx hb dX8_laysGap_49 (lv_at hl 4 rfl) ?_
          refine k_iadd hx hb dX8_laysGap_51 ?_
          refine lv_iload_n hx hb dX8_laysGap_52 rfl (lv_at hl 1 rfl) ?_
          refine k_icmp_le (tgt := 61) hx hb hs dX8_laysGap_53 (by decide) (fun hs => ?_) (fun hs => ?_)
          · refine lv_iload_n hx hb dX8_laysGap_56 rfl (lv_at hl 3 rfl) ?_
            refine lv_iload hx hb dX8_laysGap_57 (lv_at hl 4 rfl) ?_
            refine k_iadd hx hb dX8_laysGap_59 ?_
            refine lv_istore_n (lv' := [(1, .int (iI (l3 + l4))), (0, .ref (ad 0)), (2, .int (iI l2)), (3, .int (iI l3)), (4, .int (iI l4))]) hx hb dX8_laysGap_60 rfl hl (by decide) rfl (fun ls hl => ?_)
            refine k_iinc (x := l4) (k := 4) (lv' := [(4, .int (iI (l4 + 1))), (1, .int (iI (l3 + l4))), (0, .ref (ad 0)), (2, .int (iI l2)), (3, .int (iI l3))]) hx hb dX8_laysGap_61 hl rfl (by decide) rfl (fun ls hl => ?_)
            refine lv_goto (tgt := 31) hx hb dX8_laysGap_64 (by decide) ?_
            exact ih x_gapFrom x_gapSize a_starts a_keywordAt (l3 + l4) l2 l3 (l4 + 1) y0 hs Hz lz hP hD hSz ls (lv_sub hl [2, 1, 3, 4, 0] rfl) kx
          · refine k_iinc (x := l4) (k := 4) (lv' := [(4, .int (iI (l4 + 1))), (0, .ref (ad 0)), (1, .int (iI l1)), (2, .int (iI l2)), (3, .int (iI l3))]) hx hb dX8_laysGap_61 hl rfl (by decide) rfl (fun ls hl => ?_)
            refine lv_goto (tgt := 31) hx hb dX8_laysGap_64 (by decide) ?_
            exact ih x_gapFrom x_gapSize a_starts a_keywordAt l1 l2 l3 (l4 + 1) y0 hs Hz lz hP hD hSz ls (lv_sub hl [1, 2, 3, 4, 0] rfl) kx
  have Lz20 : ∀ (fu : Nat) (x_gapFrom : Int) (x_gapSize : Int) (a_starts : (Int → Int)) (a_keywordAt : (Int → Int)) (l1 : Int) (l2 : Int) (l3 : Int) (y0 : Int) (y1 : Int), s_X8_laysGap_20 fu x_streamed x_gapFrom x_gapSize a_starts l1 l2 l3 = some (y0, y1) → ∀ (Hz : Heap) (lz : List Loc), va_P D vwCl (wM cI cZ cJ ad x_thrown x_buffered x_given x_isFolding x_work x_rebuilt x_streamed x_reports x_gapFrom x_gapSize x_elements x_wholeSize x_isLaid x_takenMany a_buffer a_length a_bytes a_weight a_live a_size a_list a_moved a_planned a_stream a_reportedEnd a_reportedKeyword a_starts a_keywordAt a_element a_long1 a_head a_tail a_next a_skip a_last a_whole a_edges a_covers a_weighs a_numbers a_takes a_takenAt) Hz → va_D Az (wM cI cZ cJ ad x_thrown x_buffered x_given x_isFolding x_work x_rebuilt x_streamed x_reports x_gapFrom x_gapSize x_elements x_wholeSize x_isLaid x_takenMany a_buffer a_length a_bytes a_weight a_live a_size a_list a_moved a_planned a_stream a_reportedEnd a_reportedKeyword a_starts a_keywordAt a_element a_long1 a_head a_tail a_next a_skip a_last a_whole a_edges a_covers a_weighs a_numbers a_takes a_takenAt) → va_S Az s.heap Hz lz → ∀ ls : Array Slot, lv_has ls 5 [(0, .ref (ad 0)), (1, .int (iI l1)), (2, .int (iI l2)), (3, .int (iI l3))] → (∀ (Hz : Heap) (lz : List Loc), va_P D vwCl (wM cI cZ cJ ad x_thrown x_buffered x_given x_isFolding x_work x_rebuilt x_streamed x_reports y0 y1 x_elements x_wholeSize x_isLaid x_takenMany a_buffer a_length a_bytes a_weight a_live a_size a_list a_moved a_planned a_stream a_reportedEnd a_reportedKeyword a_starts a_keywordAt a_element a_long1 a_head a_tail a_next a_skip a_last a_whole a_edges a_covers a_weighs a_numbers a_takes a_takenAt) Hz → va_D Az (wM cI cZ cJ ad x_thrown x_buffered x_given x_isFolding x_work x_rebuilt x_streamed x_reports y0 y1 x_elements x_wholeSize x_isLaid x_takenMany a_buffer a_length a_bytes a_weight a_live a_size a_list a_moved a_planned a_stream a_reportedEnd a_reportedKeyword a_starts a_keywordAt a_element a_long1 a_head a_tail a_next a_skip a_last a_whole a_edges a_covers a_weighs a_numbers a_takes a_takenAt) → va_S Az s.heap Hz lz → ∀ ls : Array Slot, lv_has ls 5 [] → W p l e (headSpec wsX8_laysGap rm_X8_laysGap).room s m args below meth c Hz lz 0 0 (MQ below (QW D vwCl none wz Az) args s 0 0 Az) (F0 m 111 ls [])) → W p l e (headSpec wsX8_laysGap rm_X8_laysGap).room s m args below meth c Hz lz 0 0 (MQ below (QW D vwCl none wz Az) args s 0 0 Az) (F0 m 20 ls []) := by
    intro fu
    induction fu with
    | zero => intro x_gapFrom x_gapSize a_starts a_keywordAt l1 l2 l3 y0 y1 hs; cases hs
    | succ fu ih =>
      intro x_gapFrom x_gapSize a_starts a_keywordAt l1 l2 l3 y0 y1 hs Hz lz hP hD hSz ls hl kx
      rw [s_X8_laysGap_20_s] at hs
      refine lv_iload_n hx hb dX8_laysGap_20 rfl (lv_at hl 3 rfl) ?_
      refine lv_aload_n hx hb dX8_laysGap_21 rfl (lv_at hl 0 rfl) ?_
      refine va_get (ci := 8) (v := .int (iI x_streamed)) (C := RX8) (T := TX8) (N := 42) hx hb hts hiX8 hown hK hP 0 rfl rfl 18 (by decide) hf170 (fun _ h9 => h9) rfl dX8_laysGap_22 ?_
      refine k_icmp_ge (tgt := 111) hx hb hs dX8_laysGap_25 (by decide) (fun hs => ?_) (fun hs => ?_)
      · refine k_iconst (n := 1) hx hb dX8_laysGap_28 ?_
        refine lv_istore (lv' := [(4, .int (iI 1)), (0, .ref (ad 0)), (1, .int (iI l1)), (2, .int (iI l2)), (3, .int (iI l3))]) hx hb dX8_laysGap_29 hl (by decide) rfl (fun ls hl => ?_)
        obtain ⟨ez4, hq, hs⟩ := bd1_some hs
        refine Lz31 FU x_gapFrom x_gapSize a_starts a_keywordAt l1 l2 l3 1 ez4 hq Hz lz hP hD hSz ls (lv_sub hl [1, 2, 3, 4, 0] rfl) ?_
        intro Hz lz hP hD hSz ls hl
        refine lv_iload_n hx hb dX8_laysGap_67 rfl (lv_at hl 1 rfl) ?_
        refine lv_iload_n hx hb dX8_laysGap_68 rfl (lv_at hl 3 rfl) ?_
        refine k_icmp_le (tgt := 76) hx hb hs dX8_laysGap_69 (by decide) (fun hs => ?_) (fun hs => ?_)
        · refine lv_iload_n hx hb dX8_laysGap_72 rfl (lv_at hl 3 rfl) ?_
          refine k_iconst (n := 1) hx hb dX8_laysGap_73 ?_
          refine k_iadd hx hb dX8_laysGap_74 ?_
          refine lv_istore_n (lv' := [(2, .int (iI (l3 + 1))), (0, .ref (ad 0)), (1, .int (iI ez4)), (3, .int (iI l3))]) hx hb dX8_laysGap_75 rfl hl (by decide) rfl (fun ls hl => ?_)
          refine lv_iload_n hx hb dX8_laysGap_76 rfl (lv_at hl 3 rfl) ?_
          refine k_iconst (n := 1) hx hb dX8_laysGap_77 ?_
          refine k_iadd hx hb dX8_laysGap_78 ?_
          refine lv_iload_n hx hb dX8_laysGap_79 rfl (lv_at hl 0 rfl) ?_
          refine k_isub hx hb dX8_laysGap_80 ?_
          refine lv_aload_n hx hb dX8_laysGap_81 rfl (lv_at hl 1 rfl) ?_
          refine va_get (ci := 8) (v := .int (iI x_gapSize)) (C := RX8) (T := TX8) (N := 42) hx hb hts hiX8 hown hK hP 0 rfl rfl 23 (by decide) hf224 (fun _ h9 => h9) rfl dX8_laysGap_82 ?_
          refine k_icmp_gt (tgt := 91) hx hb hs dX8_laysGap_85 (by decide) (fun hs => ?_) (fun hs => ?_)
          · refine lv_aload_n hx hb dX8_laysGap_91 rfl (lv_at hl 1 rfl) ?_
            refine lv_iload_n hx hb dX8_laysGap_92 rfl (lv_at hl 0 rfl) ?_
            refine va_put (ci := 8) (v := .int (iI (l3 + 1))) (ty := .int) (C := RX8) (T := TX8) (N := 42) hx hb hts hiX8 tyX8 tyX8_ok nmX8 hown hK hP hD hSz 0 rfl rfl 22 (by decide) hf221 (fun _ h9 => h9) rfl (by decide +kernel) rfl rfl (Nat.le_of_ble_eq_true rfl) dX8_laysGap_93 (fun Hz lz hP hD hSz => ?_)
            have hP : va_P D vwCl (wM cI cZ cJ ad x_thrown x_buffered x_given x_isFolding x_work x_rebuilt x_streamed x_reports (l3 + 1) x_gapSize x_elements x_wholeSize x_isLaid x_takenMany a_buffer a_length a_bytes a_weight a_live a_size a_list a_moved a_planned a_stream a_reportedEnd a_reportedKeyword a_starts a_keywordAt a_element a_long1 a_head a_tail a_next a_skip a_last a_whole a_edges a_covers a_weighs a_numbers a_takes a_takenAt) Hz := hP
            have hD : va_D Az (wM cI cZ cJ ad x_thrown x_buffered x_given x_isFolding x_work x_rebuilt x_streamed x_reports (l3 + 1) x_gapSize x_elements x_wholeSize x_isLaid x_takenMany a_buffer a_length a_bytes a_weight a_live a_size a_list a_moved a_planned a_stream a_reportedEnd a_reportedKeyword a_starts a_keywordAt a_element a_long1 a_head a_tail a_next a_skip a_last a_whole a_edges a_covers a_weighs a_numbers a_takes a_takenAt) := hD
            refine lv_aload_n hx hb dX8_laysGap_96 rfl (lv_at hl 1 rfl) ?_
            refine lv_iload_n hx hb dX8_laysGap_97 rfl (lv_at hl 3 rfl) ?_
            refine k_iconst (n := 1) hx hb dX8_laysGap_98 ?_
            refine k_iadd hx hb dX8_laysGap_99 ?_
            refine lv_iload_n hx hb dX8_laysGap_100 rfl (lv_at hl 0 rfl) ?_
            refine k_isub hx hb dX8_laysGap_101 ?_
            refine va_put (ci := 8) (v := .int (iI ((l3 + 1) - (l3 + 1)))) (ty := .int) (C := RX8) (T := TX8) (N := 42) hx hb hts hiX8 tyX8 tyX8_ok nmX8 hown hK hP hD hSz 0 rfl rfl 23 (by decide) hf224 (fun _ h9 => h9) rfl (by decide +kernel) rfl rfl (Nat.le_of_ble_eq_true rfl) dX8_laysGap_102 (fun Hz lz hP hD hSz => ?_)
            have hP : va_P D vwCl (wM cI cZ cJ ad x_thrown x_buffered x_given x_isFolding x_work x_rebuilt x_streamed x_reports (l3 + 1) ((l3 + 1) - (l3 + 1)) x_elements x_wholeSize x_isLaid x_takenMany a_buffer a_length a_bytes a_weight a_live a_size a_list a_moved a_planned a_stream a_reportedEnd a_reportedKeyword a_starts a_keywordAt a_element a_long1 a_head a_tail a_next a_skip a_last a_whole a_edges a_covers a_weighs a_numbers a_takes a_takenAt) Hz := hP
            have hD : va_D Az (wM cI cZ cJ ad x_thrown x_buffered x_given x_isFolding x_work x_rebuilt x_streamed x_reports (l3 + 1) ((l3 + 1) - (l3 + 1)) x_elements x_wholeSize x_isLaid x_takenMany a_buffer a_length a_bytes a_weight a_live a_size a_list a_moved a_planned a_stream a_reportedEnd a_reportedKeyword a_starts a_keywordAt a_element a_long1 a_head a_tail a_next a_skip a_last a_whole a_edges a_covers a_weighs a_numbers a_takes a_takenAt) := hD
            refine k_iinc (x := l3) (k := 3) (lv' := [(3, .int (iI (l3 + 1))), (2, .int (iI (l3 + 1))), (0, .ref (ad 0)), (1, .int (iI ez4))]) hx hb dX8_laysGap_105 hl rfl (by decide) rfl (fun ls hl => ?_)
            refine lv_goto (tgt := 20) hx hb dX8_laysGap_108 (by decide) ?_
            exact ih (l3 + 1) ((l3 + 1) - (l3 + 1)) a_starts a_keywordAt ez4 (l3 + 1) (l3 + 1) y0 y1 hs Hz lz hP hD hSz ls (lv_sub hl [2, 3, 1, 0] rfl) kx
          · refine lv_goto (tgt := 105) hx hb dX8_laysGap_88 (by decide) ?_
            refine k_iinc (x := l3) (k := 3) (lv' := [(3, .int (iI (l3 + 1))), (2, .int (iI (l3 + 1))), (0, .ref (ad 0)), (1, .int (iI ez4))]) hx hb dX8_laysGap_105 hl rfl (by decide) rfl (fun ls hl => ?_)
            refine lv_goto (tgt := 20) hx hb dX8_laysGap_108 (by decide) ?_
            exact ih x_gapFrom x_gapSize a_starts a_keywordAt ez4 (l3 + 1) (l3 + 1) y0 y1 hs Hz lz hP hD hSz ls (lv_sub hl [2, 3, 1, 0] rfl) kx
        · refine lv_iload_n hx hb dX8_laysGap_76 rfl (lv_at hl 3 rfl) ?_
          refine k_iconst (n := 1) hx hb dX8_laysGap_77 ?_
          refine k_iadd hx hb dX8_laysGap_78 ?_
          refine lv_iload_n hx hb dX8_laysGap_79 rfl (lv_at hl 2 rfl) ?_
          refine k_isub hx hb dX8_laysGap_80 ?_
          refine lv_aload_n hx hb dX8_laysGap_81 rfl (lv_at hl 0 rfl) ?_
          refine va_get (ci := 8) (v := .int (iI x_gapSize)) (C := RX8) (T := TX8) (N := 42) hx hb hts hiX8 hown hK hP 0 rfl rfl 23 (by decide) hf224 (fun _ h9 => h9) rfl dX8_laysGap_82 ?_
          refine k_icmp_gt (tgt := 91) hx hb hs dX8_laysGap_85 (by decide) (fun hs => ?_) (fun hs => ?_)
          · refine lv_aload_n hx hb dX8_laysGap_91 rfl (lv_at hl 0 rfl) ?_
            refine lv_iload_n hx hb dX8_laysGap_92 rfl (lv_at hl 2 rfl) ?_
            refine va_put (ci := 8) (v := .int (iI l2)) (ty := .int) (C := RX8) (T := TX8) (N := 42) hx hb hts hiX8 tyX8 tyX8_ok nmX8 hown hK hP hD hSz 0 rfl rfl 22 (by decide) hf221 (fun _ h9 => h9) rfl (by decide +kernel) rfl rfl (Nat.le_of_ble_eq_true rfl) dX8_laysGap_93 (fun Hz lz hP hD hSz => ?_)
            have hP : va_P D vwCl (wM cI cZ cJ ad x_thrown x_buffered x_given x_isFolding x_work x_rebuilt x_streamed x_reports l2 x_gapSize x_elements x_wholeSize x_isLaid x_takenMany a_buffer a_length a_bytes a_weight a_live a_size a_list a_moved a_planned a_stream a_reportedEnd a_reportedKeyword a_starts a_keywordAt a_element a_long1 a_head a_tail a_next a_skip a_last a_whole a_edges a_covers a_weighs a_numbers a_takes a_takenAt) Hz := hP
            have hD : va_D Az (wM cI cZ cJ ad x_thrown x_buffered x_given x_isFolding x_work x_rebuilt x_streamed x_reports l2 x_gapSize x_elements x_wholeSize x_isLaid x_takenMany a_buffer a_length a_bytes a_weight a_live a_size a_list a_moved a_planned a_stream a_reportedEnd a_reportedKeyword a_starts a_keywordAt a_element a_long1 a_head a_tail a_next a_skip a_last a_whole a_edges a_covers a_weighs a_numbers a_takes a_takenAt) := hD
            refine lv_aload_n hx hb dX8_laysGap_96 rfl (lv_at hl 0 rfl) ?_
            refine lv_iload_n hx hb dX8_laysGap_97 rfl (lv_at hl 3 rfl) ?_
            refine k_iconst (n := 1) hx hb dX8_laysGap_98 ?_
            refine k_iadd hx hb dX8_laysGap_99 ?_
            refine lv_iload_n hx hb dX8_laysGap_100 rfl (lv_at hl 2 rfl) ?_
            refine k_isub hx hb dX8_laysGap_101 ?_
            refine va_put (ci := 8) (v := .int (iI ((l3 + 1) - l2))) (ty := .int) (C := RX8) (T := TX8) (N := 42) hx hb hts hiX8 tyX8 tyX8_ok nmX8 hown hK hP hD hSz 0 rfl rfl 23 (by decide) hf224 (fun _ h9 => h9) rfl (by decide +kernel) rfl rfl (Nat.le_of_ble_eq_true rfl) dX8_laysGap_102 (fun Hz lz hP hD hSz => ?_)
            have hP : va_P D vwCl (wM cI cZ cJ ad x_thrown x_buffered x_given x_isFolding x_work x_rebuilt x_streamed x_reports l2 ((l3 + 1) - l2) x_elements x_wholeSize x_isLaid x_takenMany a_buffer a_length a_bytes a_weight a_live a_size a_list a_moved a_planned a_stream a_reportedEnd a_reportedKeyword a_starts a_keywordAt a_element a_long1 a_head a_tail a_next a_skip a_last a_whole a_edges a_covers a_weighs a_numbers a_takes a_takenAt) Hz := hP
            have hD : va_D Az (wM cI cZ cJ ad x_thrown x_buffered x_given x_isFolding x_work x_rebuilt x_streamed x_reports l2 ((l3 + 1) - l2) x_elements x_wholeSize x_isLaid x_takenMany a_buffer a_length a_bytes a_weight a_live a_size a_list a_moved a_planned a_stream a_reportedEnd a_reportedKeyword a_starts a_keywordAt a_element a_long1 a_head a_tail a_next a_skip a_last a_whole a_edges a_covers a_weighs a_numbers a_takes a_takenAt) := hD
            refine k_iinc (x := l3) (k := 3) (lv' := [(3, .int (iI (l3 + 1))), (0, .ref (ad 0)), (1, .int (iI ez4)), (2, .int (iI l2))]) hx hb dX8_laysGap_105 hl rfl (by decide) rfl (fun ls hl => ?_)
            refine lv_goto (tgt := 20) hx hb dX8_laysGap_108 (by decide) ?_
            exact ih l2 ((l3 + 1) - l2) a_starts a_keywordAt ez4 l2 (l3 + 1) y0 y1 hs Hz lz hP hD hSz ls (lv_sub hl [1, 2, 3, 0] rfl) kx
          · refine lv_goto (tgt := 105) hx hb dX8_laysGap_88 (by decide) ?_
            refine k_iinc (x := l3) (k := 3) (lv' := [(3, .int (iI (l3 + 1))), (0, .ref (ad 0)), (1, .int (iI ez4)), (2, .int (iI l2))]) hx hb dX8_laysGap_105 hl rfl (by decide) rfl (fun ls hl => ?_)
            refine lv_goto (tgt := 20) hx hb dX8_laysGap_108 (by decide) ?_
            exact ih x_gapFrom x_gapSize a_starts a_keywordAt ez4 l2 (l3 + 1) y0 y1 hs Hz lz hP hD hSz ls (lv_sub hl [1, 2, 3, 0] rfl) kx
      · cases hs
        exact kx Hz lz hP hD hSz ls (lv_sub hl [] rfl)
  refine (?_ : ∀ (Hz : Heap) (lz : List Loc), va_P D vwCl (wM cI cZ cJ ad x_thrown x_buffered x_given x_isFolding x_work x_rebuilt x_streamed x_reports x_gapFrom x_gapSize x_elements x_wholeSize x_isLaid x_takenMany a_buffer a_length a_bytes a_weight a_live a_size a_list a_moved a_planned a_stream a_reportedEnd a_reportedKeyword a_starts a_keywordAt a_element a_long1 a_head a_tail a_next a_skip a_last a_whole a_edges a_covers a_weighs a_numbers a_takes a_takenAt) Hz → va_D Az (wM cI cZ cJ ad x_thrown x_buffered x_given x_isFolding x_work x_rebuilt x_streamed x_reports x_gapFrom x_gapSize x_elements x_wholeSize x_isLaid x_takenMany a_buffer a_length a_bytes a_weight a_live a_size a_list a_moved a_planned a_stream a_reportedEnd a_reportedKeyword a_starts a_keywordAt a_element a_long1 a_head a_tail a_next a_skip a_last a_whole a_edges a_covers a_weighs a_numbers a_takes a_takenAt) → va_S Az s.heap Hz lz → W p l e (headSpec wsX8_laysGap rm_X8_laysGap).room s m args below meth c Hz lz 0 0 (MQ below (QW D vwCl none wz Az) args s 0 0 Az) (F0 m 0 ls [])) s.heap [] hP hD hSz
  intro Hz lz hP hD hSz
  refine lv_aload_n hx hb dX8_laysGap_0 rfl (lv_at hl 0 rfl) ?_
  obtain ⟨vz1, vz2, hcz, hs⟩ := bd2_some hs
  refine k_wVs (As := []) (rest := []) (st1 := []) (w1 := (wM cI cZ cJ ad x_thrown x_buffered x_given x_isFolding x_work x_rebuilt x_streamed x_reports x_gapFrom x_gapSize x_elements x_wholeSize x_isLaid x_takenMany a_buffer a_length a_bytes a_weight a_live a_size a_list a_moved a_planned a_stream a_reportedEnd a_reportedKeyword vz1 vz2 a_element a_long1 a_head a_tail a_next a_skip a_last a_whole a_edges a_covers a_weighs a_numbers a_takes a_takenAt)) ⟨hx, hb, hml, hown, hts⟩ hK hP hD hSz hA (c_X8_laysMatches l D cI cZ cJ hcz) (cwV 0 hts gX8_laysGap_X8_laysMatches rfl rfl rfl (by decide +kernel) ⟨Nat.le_of_ble_eq_true rfl, Nat.le_of_ble_eq_true rfl⟩) 0 rfl rfl rfl rfl rfl hl.1 rfl (lv_room (Nat.le_of_ble_eq_true rfl)) dX8_laysGap_1 ⟨Nat.zero_le _, Nat.zero_le _⟩ rfl (fun Hz lz hP hD hSz => ?_)
  have hP : va_P D vwCl (wM cI cZ cJ ad x_thrown x_buffered x_given x_isFolding x_work x_rebuilt x_streamed x_reports x_gapFrom x_gapSize x_elements x_wholeSize x_isLaid x_takenMany a_buffer a_length a_bytes a_weight a_live a_size a_list a_moved a_planned a_stream a_reportedEnd a_reportedKeyword vz1 vz2 a_element a_long1 a_head a_tail a_next a_skip a_last a_whole a_edges a_covers a_weighs a_numbers a_takes a_takenAt) Hz := hP
  have hD : va_D Az (wM cI cZ cJ ad x_thrown x_buffered x_given x_isFolding x_work x_rebuilt x_streamed x_reports x_gapFrom x_gapSize x_elements x_wholeSize x_isLaid x_takenMany a_buffer a_length a_bytes a_weight a_live a_size a_list a_moved a_planned a_stream a_reportedEnd a_reportedKeyword vz1 vz2 a_element a_long1 a_head a_tail a_next a_skip a_last a_whole a_edges a_covers a_weighs a_numbers a_takes a_takenAt) := hD
  refine lv_aload_n hx hb dX8_laysGap_4 rfl (lv_at hl 0 rfl) ?_
  refine k_iconst (n := (-1)) hx hb dX8_laysGap_5 ?_
  refine va_put (ci := 8) (v := .int (iI (-1))) (ty := .int) (C := RX8) (T := TX8) (N := 42) hx hb hts hiX8 tyX8 tyX8_ok nmX8 hown hK hP hD hSz 0 rfl rfl 22 (by decide) hf221 (fun _ h9 => h9) rfl (by decide +kernel) rfl rfl (Nat.le_of_ble_eq_true rfl) dX8_laysGap_6 (fun Hz lz hP hD hSz => ?_)
  have hP : va_P D vwCl (wM cI cZ cJ ad x_thrown x_buffered x_given x_isFolding x_work x_rebuilt x_streamed x_reports (-1) x_gapSize x_elements x_wholeSize x_isLaid x_takenMany a_buffer a_length a_bytes a_weight a_live a_size a_list a_moved a_planned a_stream a_reportedEnd a_reportedKeyword vz1 vz2 a_element a_long1 a_head a_tail a_next a_skip a_last a_whole a_edges a_covers a_weighs a_numbers a_takes a_takenAt) Hz := hP
  have hD : va_D Az (wM cI cZ cJ ad x_thrown x_buffered x_given x_isFolding x_work x_rebuilt x_streamed x_reports (-1) x_gapSize x_elements x_wholeSize x_isLaid x_takenMany a_buffer a_length a_bytes a_weight a_live a_size a_list a_moved a_planned a_stream a_reportedEnd a_reportedKeyword vz1 vz2 a_element a_long1 a_head a_tail a_next a_skip a_last a_whole a_edges a_covers a_weighs a_numbers a_takes a_takenAt) := hD
  refine lv_aload_n hx hb dX8_laysGap_9 rfl (lv_at hl 0 rfl) ?_
  refine k_iconst (n := 0) hx hb dX8_laysGap_10 ?_
  refine va_put (ci := 8) (v := .int (iI 0)) (ty := .int) (C := RX8) (T := TX8) (N := 42) hx hb hts hiX8 tyX8 tyX8_ok nmX8 hown hK hP hD hSz 0 rfl rfl 23 (by decide) hf224 (fun _ h9 => h9) rfl (by decide +kernel) rfl rfl (Nat.le_of_ble_eq_true rfl) dX8_laysGap_11 (fun Hz lz hP hD hSz => ?_)
  have hP : va_P D vwCl (wM cI cZ cJ ad x_thrown x_buffered x_given x_isFolding x_work x_rebuilt x_streamed x_reports (-1) 0 x_elements x_wholeSize x_isLaid x_takenMany a_buffer a_length a_bytes a_weight a_live a_size a_list a_moved a_planned a_stream a_reportedEnd a_reportedKeyword vz1 vz2 a_element a_long1 a_head a_tail a_next a_skip a_last a_whole a_edges a_covers a_weighs a_numbers a_takes a_takenAt) Hz := hP
  have hD : va_D Az (wM cI cZ cJ ad x_thrown x_buffered x_given x_isFolding x_work x_rebuilt x_streamed x_reports (-1) 0 x_elements x_wholeSize x_isLaid x_takenMany a_buffer a_length a_bytes a_weight a_live a_size a_list a_moved a_planned a_stream a_reportedEnd a_reportedKeyword vz1 vz2 a_element a_long1 a_head a_tail a_next a_skip a_last a_whole a_edges a_covers a_weighs a_numbers a_takes a_takenAt) := hD
  refine k_iconst (n := 0) hx hb dX8_laysGap_14 ?_
  refine lv_istore_n (lv' := [(1, .int (iI 0)), (0, .ref (ad 0))]) hx hb dX8_laysGap_15 rfl hl (by decide) rfl (fun ls hl => ?_)
  refine k_iconst (n := 0) hx hb dX8_laysGap_16 ?_
  refine lv_istore_n (lv' := [(2, .int (iI 0)), (1, .int (iI 0)), (0, .ref (ad 0))]) hx hb dX8_laysGap_17 rfl hl (by decide) rfl (fun ls hl => ?_)
  refine k_iconst (n := 0) hx hb dX8_laysGap_18 ?_
  refine lv_istore_n (lv' := [(3, .int (iI 0)), (2, .int (iI 0)), (1, .int (iI 0)), (0, .ref (ad 0))]) hx hb dX8_laysGap_19 rfl hl (by decide) rfl (fun ls hl => ?_)
  obtain ⟨ez5, ez6, hq, hs⟩ := bd2_some hs
  refine Lz20 FU (-1) 0 vz1 vz2 0 0 0 ez5 ez6 hq Hz lz hP hD hSz ls (lv_sub hl [3, 2, 1, 0] rfl) ?_
  intro Hz lz hP hD hSz ls hl
  cases hs
  exact k_vret_w hx hb hr hlk (by rw [hw1]; exact hP) hSz dX8_laysGap_111 rfl
/-! X8_gapLength -/
noncomputable def s_X8_gapLength (x_thrown : Int) (x_given : Int) (x_isFolding : Int) (x_streamed : Int) (x_gapFrom : Int) (x_gapSize : Int) (a_length : (Int → Int)) (a_bytes : (Int → Int)) (a_live : (Int → Int)) (a_stream : (Int → Int)) (a_starts : (Int → Int)) (a_keywordAt : (Int → Int)) : Option (Int × Int × Int × Int × (Int → Int) × (Int → Int)) := bd4 (s_X8_laysGap x_given x_isFolding x_streamed x_gapFrom x_gapSize a_length a_bytes a_live a_stream a_starts a_keywordAt) (fun vz1 vz2 vz3 vz4 => some (vz2, 0, vz1, vz2, vz3, vz4))
def rm_X8_gapLength : Room := { frames := 6, cells := 0, slots := 0, locals := 138 }
set_option maxHeartbeats 4000000 in
set_option maxRecDepth 100000 in
theorem c_X8_gapLength (l : Launch) (D : va_G) (cI cZ cJ : ClassId) {ad : Nat → Nat} {x_thrown : Int} {x_buffered : Int} {x_given : Int} {x_isFolding : Int} {x_work : Int} {x_rebuilt : Int} {x_streamed : Int} {x_reports : Int} {x_gapFrom : Int} {x_gapSize : Int} {x_elements : Int} {x_wholeSize : Int} {x_isLaid : Int} {x_takenMany : Int} {a_buffer : (Int → Int)} {a_length : (Int → Int)} {a_bytes : (Int → Int)} {a_weight : (Int → Int)} {a_live : (Int → Int)} {a_size : (Int → Int)} {a_list : (Int → Int)} {a_moved : (Int → Int)} {a_planned : (Int → Int)} {a_stream : (Int → Int)} {a_reportedEnd : (Int → Int)} {a_reportedKeyword : (Int → Int)} {a_starts : (Int → Int)} {a_keywordAt : (Int → Int)} {a_element : (Int → Int)} {a_long1 : (Int → Int)} {a_head : (Int → Int)} {a_tail : (Int → Int)} {a_next : (Int → Int)} {a_skip : (Int → Int)} {a_last : (Int → Int)} {a_whole : (Int → Int)} {a_edges : (Int → Int)} {a_covers : (Int → Int)} {a_weighs : (Int → Int)} {a_numbers : (Int → Int)} {a_takes : (Int → Int)} {a_takenAt : (Int → Int)} {r : Int} {y_x_thrown : Int} {y_x_gapFrom : Int} {y_x_gapSize : Int} {y_a_starts : (Int → Int)} {y_a_keywordAt : (Int → Int)} {sz : Nat} (hs : s_X8_gapLength x_thrown x_given x_isFolding x_streamed x_gapFrom x_gapSize a_length a_bytes a_live a_stream a_starts a_keywordAt = some (r, y_x_thrown, y_x_gapFrom, y_x_gapSize, y_a_starts, y_a_keywordAt)) : Met l yX8_gapLength wsX8_gapLength rm_X8_gapLength (PW D vwCl [(cI, .int), (cZ, .boolean), (cJ, .long)] [.ref (ad 0)] (wM cI cZ cJ ad x_thrown x_buffered x_given x_isFolding x_work x_rebuilt x_streamed x_reports x_gapFrom x_gapSize x_elements x_wholeSize x_isLaid x_takenMany a_buffer a_length a_bytes a_weight a_live a_size a_list a_moved a_planned a_stream a_reportedEnd a_reportedKeyword a_starts a_keywordAt a_element a_long1 a_head a_tail a_next a_skip a_last a_whole a_edges a_covers a_weighs a_numbers a_takes a_takenAt) sz) (QW D vwCl (some (.int (iI r))) (wM cI cZ cJ ad y_x_thrown x_buffered x_given x_isFolding x_work x_rebuilt x_streamed x_reports y_x_gapFrom y_x_gapSize x_elements x_wholeSize x_isLaid x_takenMany a_buffer a_length a_bytes a_weight a_live a_size a_list a_moved a_planned a_stream a_reportedEnd a_reportedKeyword y_a_starts y_a_keywordAt a_element a_long1 a_head a_tail a_next a_skip a_last a_whole a_edges a_covers a_weighs a_numbers a_takes a_takenAt) (va_A (wM cI cZ cJ ad x_thrown x_buffered x_given x_isFolding x_work x_rebuilt x_streamed x_reports x_gapFrom x_gapSize x_elements x_wholeSize x_isLaid x_takenMany a_buffer a_length a_bytes a_weight a_live a_size a_list a_moved a_planned a_stream a_reportedEnd a_reportedKeyword a_starts a_keywordAt a_element a_long1 a_head a_tail a_next a_skip a_last a_whole a_edges a_covers a_weighs a_numbers a_takes a_takenAt) sz)) 0 0 (va_A (wM cI cZ cJ ad x_thrown x_buffered x_given x_isFolding x_work x_rebuilt x_streamed x_reports x_gapFrom x_gapSize x_elements x_wholeSize x_isLaid x_takenMany a_buffer a_length a_bytes a_weight a_live a_size a_list a_moved a_planned a_stream a_reportedEnd a_reportedKeyword a_starts a_keywordAt a_element a_long1 a_head a_tail a_next a_skip a_last a_whole a_edges a_covers a_weighs a_numbers a_takes a_takenAt) sz) := by
  refine Met.ofW (cc := cX8_gapLength) (maxL := 1) (ret := (some .int)) (by decide) rfl ?_
  intro p e s m args below meth c s₁ B hml hv
  obtain ⟨hav, hsz, hP, hK, hD0⟩ := hv
  have hx := B.exec
  have hb := B.bytes
  have hr := B.returns
  have hts := atoms_spec (ws := wsX8_gapLength) B.pre
  have hown : s.vm.findClass RX8 = some m.cls := findClass_of_methodNamed B.named
  have hlk := B.notSynchronized
  have hf1 : (Cond.fieldLink RX8 1 "KeywordMatcherModel" "thrown" "I").before args s = true := hts _ (List.mem_of_getElem? (i := 1) rfl)
  have hiX8 : ∀ w ∈ wsX80, w ∈ wsX8_gapLength := fun w h => List.mem_cons_of_mem _ (List.mem_append_right _ h)
  have hf224 : (Cond.fieldLink RX8 224 "KeywordMatcherModel" "gapSize" "I").before args s = true := hts _ (List.mem_of_getElem? (i := 2) rfl)
  subst hsz
  have hD := hD0.self (sz := s.heap.size)
  generalize hAe : va_A (wM cI cZ cJ ad x_thrown x_buffered x_given x_isFolding x_work x_rebuilt x_streamed x_reports x_gapFrom x_gapSize x_elements x_wholeSize x_isLaid x_takenMany a_buffer a_length a_bytes a_weight a_live a_size a_list a_moved a_planned a_stream a_reportedEnd a_reportedKeyword a_starts a_keywordAt a_element a_long1 a_head a_tail a_next a_skip a_last a_whole a_edges a_covers a_weighs a_numbers a_takes a_takenAt) s.heap.size = Az at hD ⊢
  have hA : ∀ q : Nat, s.heap.size ≤ q → Az q := fun q h => by rw [← hAe]; exact Or.inr h
  clear hAe
  have hSz : va_S Az s.heap s.heap [] := va_S.rf
  obtain ⟨wz, hw1⟩ : ∃ z : va_W, z = (wM cI cZ cJ ad y_x_thrown x_buffered x_given x_isFolding x_work x_rebuilt x_streamed x_reports y_x_gapFrom y_x_gapSize x_elements x_wholeSize x_isLaid x_takenMany a_buffer a_length a_bytes a_weight a_live a_size a_list a_moved a_planned a_stream a_reportedEnd a_reportedKeyword y_a_starts y_a_keywordAt a_element a_long1 a_head a_tail a_next a_skip a_last a_whole a_edges a_covers a_weighs a_numbers a_takes a_takenAt) := ⟨_, rfl⟩
  rw [← hw1]
  have hl := lv_entry ([.ref (ad 0)]) (n := 1) (Nat.le_of_ble_eq_true rfl)
  rw [show entryFrame m args 1 = entryFrame m ([.ref (ad 0)] : List Value).toArray 1 from by rw [hav], lg_entry_eq]
  generalize (lg_sl ([.ref (ad 0)]) ++ List.replicate (1 - (lg_sl ([.ref (ad 0)])).length) Slot.unset).toArray = ls at hl ⊢
  have hl : lv_has ls 1 [(0, .ref (ad 0))] := hl
  unfold s_X8_gapLength at hs
  refine (?_ : ∀ (Hz : Heap) (lz : List Loc), va_P D vwCl (wM cI cZ cJ ad x_thrown x_buffered x_given x_isFolding x_work x_rebuilt x_streamed x_reports x_gapFrom x_gapSize x_elements x_wholeSize x_isLaid x_takenMany a_buffer a_length a_bytes a_weight a_live a_size a_list a_moved a_planned a_stream a_reportedEnd a_reportedKeyword a_starts a_keywordAt a_element a_long1 a_head a_tail a_next a_skip a_last a_whole a_edges a_covers a_weighs a_numbers a_takes a_takenAt) Hz → va_D Az (wM cI cZ cJ ad x_thrown x_buffered x_given x_isFolding x_work x_rebuilt x_streamed x_reports x_gapFrom x_gapSize x_elements x_wholeSize x_isLaid x_takenMany a_buffer a_length a_bytes a_weight a_live a_size a_list a_moved a_planned a_stream a_reportedEnd a_reportedKeyword a_starts a_keywordAt a_element a_long1 a_head a_tail a_next a_skip a_last a_whole a_edges a_covers a_weighs a_numbers a_takes a_takenAt) → va_S Az s.heap Hz lz → W p l e (headSpec wsX8_gapLength rm_X8_gapLength).room s m args below meth c Hz lz 0 0 (MQ below (QW D vwCl (some (.int (iI r))) wz Az) args s 0 0 Az) (F0 m 0 ls [])) s.heap [] hP hD hSz
  intro Hz lz hP hD hSz
  refine lv_aload_n hx hb dX8_gapLength_0 rfl (lv_at hl 0 rfl) ?_
  refine k_iconst (n := 0) hx hb dX8_gapLength_1 ?_
  refine va_put (ci := 8) (v := .int (iI 0)) (ty := .int) (C := RX8) (T := TX8) (N := 42) hx hb hts hiX8 tyX8 tyX8_ok nmX8 hown hK hP hD hSz 0 rfl rfl 0 (by decide) hf1 (fun _ h9 => h9) rfl (by decide +kernel) rfl rfl (Nat.le_of_ble_eq_true rfl) dX8_gapLength_2 (fun Hz lz hP hD hSz => ?_)
  have hP : va_P D vwCl (wM cI cZ cJ ad 0 x_buffered x_given x_isFolding x_work x_rebuilt x_streamed x_reports x_gapFrom x_gapSize x_elements x_wholeSize x_isLaid x_takenMany a_buffer a_length a_bytes a_weight a_live a_size a_list a_moved a_planned a_stream a_reportedEnd a_reportedKeyword a_starts a_keywordAt a_element a_long1 a_head a_tail a_next a_skip a_last a_whole a_edges a_covers a_weighs a_numbers a_takes a_takenAt) Hz := hP
  have hD : va_D Az (wM cI cZ cJ ad 0 x_buffered x_given x_isFolding x_work x_rebuilt x_streamed x_reports x_gapFrom x_gapSize x_elements x_wholeSize x_isLaid x_takenMany a_buffer a_length a_bytes a_weight a_live a_size a_list a_moved a_planned a_stream a_reportedEnd a_reportedKeyword a_starts a_keywordAt a_element a_long1 a_head a_tail a_next a_skip a_last a_whole a_edges a_covers a_weighs a_numbers a_takes a_takenAt) := hD
  refine lv_aload_n hx hb dX8_gapLength_5 rfl (lv_at hl 0 rfl) ?_
  obtain ⟨vz1, vz2, vz3, vz4, hcz, hs⟩ := bd4_some hs
  refine k_wVs (As := []) (rest := []) (st1 := []) (w1 := (wM cI cZ cJ ad 0 x_buffered x_given x_isFolding x_work x_rebuilt x_streamed x_reports vz1 vz2 x_elements x_wholeSize x_isLaid x_takenMany a_buffer a_length a_bytes a_weight a_live a_size a_list a_moved a_planned a_stream a_reportedEnd a_reportedKeyword vz3 vz4 a_element a_long1 a_head a_tail a_next a_skip a_last a_whole a_edges a_covers a_weighs a_numbers a_takes a_takenAt)) ⟨hx, hb, hml, hown, hts⟩ hK hP hD hSz hA (c_X8_laysGap l D cI cZ cJ hcz) (cwV 0 hts gX8_gapLength_X8_laysGap rfl rfl rfl (by decide +kernel) ⟨Nat.le_of_ble_eq_true rfl, Nat.le_of_ble_eq_true rfl⟩) 0 rfl rfl rfl rfl rfl hl.1 rfl (lv_room (Nat.le_of_ble_eq_true rfl)) dX8_gapLength_6 ⟨Nat.zero_le _, Nat.zero_le _⟩ rfl (fun Hz lz hP hD hSz => ?_)
  have hP : va_P D vwCl (wM cI cZ cJ ad 0 x_buffered x_given x_isFolding x_work x_rebuilt x_streamed x_reports vz1 vz2 x_elements x_wholeSize x_isLaid x_takenMany a_buffer a_length a_bytes a_weight a_live a_size a_list a_moved a_planned a_stream a_reportedEnd a_reportedKeyword vz3 vz4 a_element a_long1 a_head a_tail a_next a_skip a_last a_whole a_edges a_covers a_weighs a_numbers a_takes a_takenAt) Hz := hP
  have hD : va_D Az (wM cI cZ cJ ad 0 x_buffered x_given x_isFolding x_work x_rebuilt x_streamed x_reports vz1 vz2 x_elements x_wholeSize x_isLaid x_takenMany a_buffer a_length a_bytes a_weight a_live a_size a_list a_moved a_planned a_stream a_reportedEnd a_reportedKeyword vz3 vz4 a_element a_long1 a_head a_tail a_next a_skip a_last a_whole a_edges a_covers a_weighs a_numbers a_takes a_takenAt) := hD
  refine lv_aload_n hx hb dX8_gapLength_9 rfl (lv_at hl 0 rfl) ?_
  refine va_get (ci := 8) (v := .int (iI vz2)) (C := RX8) (T := TX8) (N := 42) hx hb hts hiX8 hown hK hP 0 rfl rfl 23 (by decide) hf224 (fun _ h9 => h9) rfl dX8_gapLength_10 ?_
  cases hs
  exact k_iret_w hx hb hr hlk (by rw [hw1]; exact hP) hSz dX8_gapLength_13 rfl
/-! X8_gapStart -/
noncomputable def s_X8_gapStart (x_thrown : Int) (x_given : Int) (x_isFolding : Int) (x_streamed : Int) (x_gapFrom : Int) (x_gapSize : Int) (a_length : (Int → Int)) (a_bytes : (Int → Int)) (a_live : (Int → Int)) (a_stream : (Int → Int)) (a_starts : (Int → Int)) (a_keywordAt : (Int → Int)) : Option (Int × Int × Int × Int × (Int → Int) × (Int → Int)) := bd4 (s_X8_laysGap x_given x_isFolding x_streamed x_gapFrom x_gapSize a_length a_bytes a_live a_stream a_starts a_keywordAt) (fun vz1 vz2 vz3 vz4 => some (vz1, 0, vz1, vz2, vz3, vz4))
def rm_X8_gapStart : Room := { frames := 6, cells := 0, slots := 0, locals := 138 }
set_option maxHeartbeats 4000000 in
set_option maxRecDepth 100000 in
theorem c_X8_gapStart (l : Launch) (D : va_G) (cI cZ cJ : ClassId) {ad : Nat → Nat} {x_thrown : Int} {x_buffered : Int} {x_given : Int} {x_isFolding : Int} {x_work : Int} {x_rebuilt : Int} {x_streamed : Int} {x_reports : Int} {x_gapFrom : Int} {x_gapSize : Int} {x_elements : Int} {x_wholeSize : Int} {x_isLaid : Int} {x_takenMany : Int} {a_buffer : (Int → Int)} {a_length : (Int → Int)} {a_bytes : (Int → Int)} {a_weight : (Int → Int)} {a_live : (Int → Int)} {a_size : (Int → Int)} {a_list : (Int → Int)} {a_moved : (Int → Int)} {a_planned : (Int → Int)} {a_stream : (Int → Int)} {a_reportedEnd : (Int → Int)} {a_reportedKeyword : (Int → Int)} {a_starts : (Int → Int)} {a_keywordAt : (Int → Int)} {a_element : (Int → Int)} {a_long1 : (Int → Int)} {a_head : (Int → Int)} {a_tail : (Int → Int)} {a_next : (Int → Int)} {a_skip : (Int → Int)} {a_last : (Int → Int)} {a_whole : (Int → Int)} {a_edges : (Int → Int)} {a_covers : (Int → Int)} {a_weighs : (Int → Int)} {a_numbers : (Int → Int)} {a_takes : (Int → Int)} {a_takenAt : (Int → Int)} {r : Int} {y_x_thrown : Int} {y_x_gapFrom : Int} {y_x_gapSize : Int} {y_a_starts : (Int → Int)} {y_a_keywordAt : (Int → Int)} {sz : Nat} (hs : s_X8_gapStart x_thrown x_given x_isFolding x_streamed x_gapFrom x_gapSize a_length a_bytes a_live a_stream a_starts a_keywordAt = some (r, y_x_thrown, y_x_gapFrom, y_x_gapSize, y_a_starts, y_a_keywordAt)) : Met l yX8_gapStart wsX8_gapStart rm_X8_gapStart (PW D vwCl [(cI, .int), (cZ, .boolean), (cJ, .long)] [.ref (ad 0)] (wM cI cZ cJ ad x_thrown x_buffered x_given x_isFolding x_work x_rebuilt x_streamed x_reports x_gapFrom x_gapSize x_elements x_wholeSize x_isLaid x_takenMany a_buffer a_length a_bytes a_weight a_live a_size a_list a_moved a_planned a_stream a_reportedEnd a_reportedKeyword a_starts a_keywordAt a_element a_long1 a_head a_tail a_next a_skip a_last a_whole a_edges a_covers a_weighs a_numbers a_takes a_takenAt) sz) (QW D vwCl (some (.int (iI r))) (wM cI cZ cJ ad y_x_thrown x_buffered x_given x_isFolding x_work x_rebuilt x_streamed x_reports y_x_gapFrom y_x_gapSize x_elements x_wholeSize x_isLaid x_takenMany a_buffer a_length a_bytes a_weight a_live a_size a_list a_moved a_planned a_stream a_reportedEnd a_reportedKeyword y_a_starts y_a_keywordAt a_element a_long1 a_head a_tail a_next a_skip a_last a_whole a_edges a_covers a_weighs a_numbers a_takes a_takenAt) (va_A (wM cI cZ cJ ad x_thrown x_buffered x_given x_isFolding x_work x_rebuilt x_streamed x_reports x_gapFrom x_gapSize x_elements x_wholeSize x_isLaid x_takenMany a_buffer a_length a_bytes a_weight a_live a_size a_list a_moved a_planned a_stream a_reportedEnd a_reportedKeyword a_starts a_keywordAt a_element a_long1 a_head a_tail a_next a_skip a_last a_whole a_edges a_covers a_weighs a_numbers a_takes a_takenAt) sz)) 0 0 (va_A (wM cI cZ cJ ad x_thrown x_buffered x_given x_isFolding x_work x_rebuilt x_streamed x_reports x_gapFrom x_gapSize x_elements x_wholeSize x_isLaid x_takenMany a_buffer a_length a_bytes a_weight a_live a_size a_list a_moved a_planned a_stream a_reportedEnd a_reportedKeyword a_starts a_keywordAt a_element a_long1 a_head a_tail a_next a_skip a_last a_whole a_edges a_covers a_weighs a_numbers a_takes a_takenAt) sz) := by
  refine Met.ofW (cc := cX8_gapStart) (maxL := 1) (ret := (some .int)) (by decide) rfl ?_
  intro p e s m args below meth c s₁ B hml hv
  obtain ⟨hav, hsz, hP, hK, hD0⟩ := hv
  have hx := B.exec
  have hb := B.bytes
  have hr := B.returns
  have hts := atoms_spec (ws := wsX8_gapStart) B.pre
  have hown : s.vm.findClass RX8 = some m.cls := findClass_of_methodNamed B.named
  have hlk := B.notSynchronized
  have hf1 : (Cond.fieldLink RX8 1 "KeywordMatcherModel" "thrown" "I").before args s = true := hts _ (List.mem_of_getElem? (i := 1) rfl)
  have hiX8 : ∀ w ∈ wsX80, w ∈ wsX8_gapStart := fun w h => List.mem_cons_of_mem _ (List.mem_append_right _ h)
  have hf221 : (Cond.fieldLink RX8 221 "KeywordMatcherModel" "gapFrom" "I").before args s = true := hts _ (List.mem_of_getElem? (i := 2) rfl)
  subst hsz
  have hD := hD0.self (sz := s.heap.size)
  generalize hAe : va_A (wM cI cZ cJ ad x_thrown x_buffered x_given x_isFolding x_work x_rebuilt x_streamed x_reports x_gapFrom x_gapSize x_elements x_wholeSize x_isLaid x_takenMany a_buffer a_length a_bytes a_weight a_live a_size a_list a_moved a_planned a_stream a_reportedEnd a_reportedKeyword a_starts a_keywordAt a_element a_long1 a_head a_tail a_next a_skip a_last a_whole a_edges a_covers a_weighs a_numbers a_takes a_takenAt) s.heap.size = Az at hD ⊢
  have hA : ∀ q : Nat, s.heap.size ≤ q → Az q := fun q h => by rw [← hAe]; exact Or.inr h
  clear hAe
  have hSz : va_S Az s.heap s.heap [] := va_S.rf
  obtain ⟨wz, hw1⟩ : ∃ z : va_W, z = (wM cI cZ cJ ad y_x_thrown x_buffered x_given x_isFolding x_work x_rebuilt x_streamed x_reports y_x_gapFrom y_x_gapSize x_elements x_wholeSize x_isLaid x_takenMany a_buffer a_length a_bytes a_weight a_live a_size a_list a_moved a_planned a_stream a_reportedEnd a_reportedKeyword y_a_starts y_a_keywordAt a_element a_long1 a_head a_tail a_next a_skip a_last a_whole a_edges a_covers a_weighs a_numbers a_takes a_takenAt) := ⟨_, rfl⟩
  rw [← hw1]
  have hl := lv_entry ([.ref (ad 0)]) (n := 1) (Nat.le_of_ble_eq_true rfl)
  rw [show entryFrame m args 1 = entryFrame m ([.ref (ad 0)] : List Value).toArray 1 from by rw [hav], lg_entry_eq]
  generalize (lg_sl ([.ref (ad 0)]) ++ List.replicate (1 - (lg_sl ([.ref (ad 0)])).length) Slot.unset).toArray = ls at hl ⊢
  have hl : lv_has ls 1 [(0, .ref (ad 0))] := hl
  unfold s_X8_gapStart at hs
  refine (?_ : ∀ (Hz : Heap) (lz : List Loc), va_P D vwCl (wM cI cZ cJ ad x_thrown x_buffered x_given x_isFolding x_work x_rebuilt x_streamed x_reports x_gapFrom x_gapSize x_elements x_wholeSize x_isLaid x_takenMany a_buffer a_length a_bytes a_weight a_live a_size a_list a_moved a_planned a_stream a_reportedEnd a_reportedKeyword a_starts a_keywordAt a_element a_long1 a_head a_tail a_next a_skip a_last a_whole a_edges a_covers a_weighs a_numbers a_takes a_takenAt) Hz → va_D Az (wM cI cZ cJ ad x_thrown x_buffered x_given x_isFolding x_work x_rebuilt x_streamed x_reports x_gapFrom x_gapSize x_elements x_wholeSize x_isLaid x_takenMany a_buffer a_length a_bytes a_weight a_live a_size a_list a_moved a_planned a_stream a_reportedEnd a_reportedKeyword a_starts a_keywordAt a_element a_long1 a_head a_tail a_next a_skip a_last a_whole a_edges a_covers a_weighs a_numbers a_takes a_takenAt) → va_S Az s.heap Hz lz → W p l e (headSpec wsX8_gapStart rm_X8_gapStart).room s m args below meth c Hz lz 0 0 (MQ below (QW D vwCl (some (.int (iI r))) wz Az) args s 0 0 Az) (F0 m 0 ls [])) s.heap [] hP hD hSz
  intro Hz lz hP hD hSz
  refine lv_aload_n hx hb dX8_gapStart_0 rfl (lv_at hl 0 rfl) ?_
  refine k_iconst (n := 0) hx hb dX8_gapStart_1 ?_
  refine va_put (ci := 8) (v := .int (iI 0)) (ty := .int) (C := RX8) (T := TX8) (N := 42) hx hb hts hiX8 tyX8 tyX8_ok nmX8 hown hK hP hD hSz 0 rfl rfl 0 (by decide) hf1 (fun _ h9 => h9) rfl (by decide +kernel) rfl rfl (Nat.le_of_ble_eq_true rfl) dX8_gapStart_2 (fun Hz lz hP hD hSz => ?_)
  have hP : va_P D vwCl (wM cI cZ cJ ad 0 x_buffered x_given x_isFolding x_work x_rebuilt x_streamed x_reports x_gapFrom x_gapSize x_elements x_wholeSize x_isLaid x_takenMany a_buffer a_length a_bytes a_weight a_live a_size a_list a_moved a_planned a_stream a_reportedEnd a_reportedKeyword a_starts a_keywordAt a_element a_long1 a_head a_tail a_next a_skip a_last a_whole a_edges a_covers a_weighs a_numbers a_takes a_takenAt) Hz := hP
  have hD : va_D Az (wM cI cZ cJ ad 0 x_buffered x_given x_isFolding x_work x_rebuilt x_streamed x_reports x_gapFrom x_gapSize x_elements x_wholeSize x_isLaid x_takenMany a_buffer a_length a_bytes a_weight a_live a_size a_list a_moved a_planned a_stream a_reportedEnd a_reportedKeyword a_starts a_keywordAt a_element a_long1 a_head a_tail a_next a_skip a_last a_whole a_edges a_covers a_weighs a_numbers a_takes a_takenAt) := hD
  refine lv_aload_n hx hb dX8_gapStart_5 rfl (lv_at hl 0 rfl) ?_
  obtain ⟨vz1, vz2, vz3, vz4, hcz, hs⟩ := bd4_some hs
  refine k_wVs (As := []) (rest := []) (st1 := []) (w1 := (wM cI cZ cJ ad 0 x_buffered x_given x_isFolding x_work x_rebuilt x_streamed x_reports vz1 vz2 x_elements x_wholeSize x_isLaid x_takenMany a_buffer a_length a_bytes a_weight a_live a_size a_list a_moved a_planned a_stream a_reportedEnd a_reportedKeyword vz3 vz4 a_element a_long1 a_head a_tail a_next a_skip a_last a_whole a_edges a_covers a_weighs a_numbers a_takes a_takenAt)) ⟨hx, hb, hml, hown, hts⟩ hK hP hD hSz hA (c_X8_laysGap l D cI cZ cJ hcz) (cwV 0 hts gX8_gapStart_X8_laysGap rfl rfl rfl (by decide +kernel) ⟨Nat.le_of_ble_eq_true rfl, Nat.le_of_ble_eq_true rfl⟩) 0 rfl rfl rfl rfl rfl hl.1 rfl (lv_room (Nat.le_of_ble_eq_true rfl)) dX8_gapStart_6 ⟨Nat.zero_le _, Nat.zero_le _⟩ rfl (fun Hz lz hP hD hSz => ?_)
  have hP : va_P D vwCl (wM cI cZ cJ ad 0 x_buffered x_given x_isFolding x_work x_rebuilt x_streamed x_reports vz1 vz2 x_elements x_wholeSize x_isLaid x_takenMany a_buffer a_length a_bytes a_weight a_live a_size a_list a_moved a_planned a_stream a_reportedEnd a_reportedKeyword vz3 vz4 a_element a_long1 a_head a_tail a_next a_skip a_last a_whole a_edges a_covers a_weighs a_numbers a_takes a_takenAt) Hz := hP
  have hD : va_D Az (wM cI cZ cJ ad 0 x_buffered x_given x_isFolding x_work x_rebuilt x_streamed x_reports vz1 vz2 x_elements x_wholeSize x_isLaid x_takenMany a_buffer a_length a_bytes a_weight a_live a_size a_list a_moved a_planned a_stream a_reportedEnd a_reportedKeyword vz3 vz4 a_element a_long1 a_head a_tail a_next a_skip a_last a_whole a_edges a_covers a_weighs a_numbers a_takes a_takenAt) := hD
  refine lv_aload_n hx hb dX8_gapStart_9 rfl (lv_at hl 0 rfl) ?_
  refine va_get (ci := 8) (v := .int (iI vz1)) (C := RX8) (T := TX8) (N := 42) hx hb hts hiX8 hown hK hP 0 rfl rfl 22 (by decide) hf221 (fun _ h9 => h9) rfl dX8_gapStart_10 ?_
  cases hs
  exact k_iret_w hx hb hr hlk (by rw [hw1]; exact hP) hSz dX8_gapStart_13 rfl
/-! X8_misses -/
noncomputable def s_X8_misses_5 (fu : Nat) : Int → (Int → Int) → (Int → Int) → (Int → Int) → Int → Int → Int → Int → Option (Int) := Nat.rec (motive := fun _ => Int → (Int → Int) → (Int → Int) → (Int → Int) → Int → Int → Int → Int → Option (Int)) (fun _ _ _ _ _ _ _ _ => none) (fun _ ih x_isFolding a_length a_bytes a_stream l1 l2 l3 l4 => (rdA a_length 120 l1).bind (fun vz1 => cLt l4 vz1 (bd1 (s_X8_byteOf a_bytes l1 l4) (fun vz2 => (rdA a_stream 600 (l2 + l4)).bind (fun vz3 => bd1 (s_X8_like x_isFolding vz2 vz3) (fun vz4 => cEq vz4 0 (ih x_isFolding a_length a_bytes a_stream l1 l2 (l3 + 1) (l4 + 1)) (ih x_isFolding a_length a_bytes a_stream l1 l2 (l3 + 0) (l4 + 1)))))) (some l3))) fu
theorem s_X8_misses_5_s (fu : Nat) (x_isFolding : Int) (a_length : (Int → Int)) (a_bytes : (Int → Int)) (a_stream : (Int → Int)) (l1 : Int) (l2 : Int) (l3 : Int) (l4 : Int) : s_X8_misses_5 (fu + 1) x_isFolding a_length a_bytes a_stream l1 l2 l3 l4 = ((rdA a_length 120 l1).bind (fun vz1 => cLt l4 vz1 (bd1 (s_X8_byteOf a_bytes l1 l4) (fun vz2 => (rdA a_stream 600 (l2 + l4)).bind (fun vz3 => bd1 (s_X8_like x_isFolding vz2 vz3) (fun vz4 => cEq vz4 0 (s_X8_misses_5 fu x_isFolding a_length a_bytes a_stream l1 l2 (l3 + 1) (l4 + 1)) (s_X8_misses_5 fu x_isFolding a_length a_bytes a_stream l1 l2 (l3 + 0) (l4 + 1)))))) (some l3))) := rfl
theorem s_X8_misses_5_z (x_isFolding : Int) (a_length : (Int → Int)) (a_bytes : (Int → Int)) (a_stream : (Int → Int)) (l1 : Int) (l2 : Int) (l3 : Int) (l4 : Int) : s_X8_misses_5 0 x_isFolding a_length a_bytes a_stream l1 l2 l3 l4 = none := rfl
noncomputable def s_X8_misses (x_isFolding : Int) (a_length : (Int → Int)) (a_bytes : (Int → Int)) (a_stream : (Int → Int)) (pz1 : Int) (pz2 : Int) : Option (Int) := bd1 (s_X8_misses_5 FU x_isFolding a_length a_bytes a_stream pz1 pz2 0 0) (fun ez5 => some ez5)
def rm_X8_misses : Room := { frames := 3, cells := 0, slots := 0, locals := 68 }
set_option maxHeartbeats 4000000 in
set_option maxRecDepth 100000 in
theorem c_X8_misses (l : Launch) (D : va_G) (cI cZ cJ : ClassId) {ad : Nat → Nat} {x_thrown : Int} {x_buffered : Int} {x_given : Int} {x_isFolding : Int} {x_work : Int} {x_rebuilt : Int} {x_streamed : Int} {x_reports : Int} {x_gapFrom : Int} {x_gapSize : Int} {x_elements : Int} {x_wholeSize : Int} {x_isLaid : Int} {x_takenMany : Int} {a_buffer : (Int → Int)} {a_length : (Int → Int)} {a_bytes : (Int → Int)} {a_weight : (Int → Int)} {a_live : (Int → Int)} {a_size : (Int → Int)} {a_list : (Int → Int)} {a_moved : (Int → Int)} {a_planned : (Int → Int)} {a_stream : (Int → Int)} {a_reportedEnd : (Int → Int)} {a_reportedKeyword : (Int → Int)} {a_starts : (Int → Int)} {a_keywordAt : (Int → Int)} {a_element : (Int → Int)} {a_long1 : (Int → Int)} {a_head : (Int → Int)} {a_tail : (Int → Int)} {a_next : (Int → Int)} {a_skip : (Int → Int)} {a_last : (Int → Int)} {a_whole : (Int → Int)} {a_edges : (Int → Int)} {a_covers : (Int → Int)} {a_weighs : (Int → Int)} {a_numbers : (Int → Int)} {a_takes : (Int → Int)} {a_takenAt : (Int → Int)} {pz1 : Int} {pz2 : Int} {r : Int} (hs : s_X8_misses x_isFolding a_length a_bytes a_stream pz1 pz2 = some r) : Met l yX8_misses wsX8_misses rm_X8_misses (PR D vwCl [(cI, .int), (cZ, .boolean), (cJ, .long)] [.ref (ad 0), .int (iI pz1), .int (iI pz2)] (wM cI cZ cJ ad x_thrown x_buffered x_given x_isFolding x_work x_rebuilt x_streamed x_reports x_gapFrom x_gapSize x_elements x_wholeSize x_isLaid x_takenMany a_buffer a_length a_bytes a_weight a_live a_size a_list a_moved a_planned a_stream a_reportedEnd a_reportedKeyword a_starts a_keywordAt a_element a_long1 a_head a_tail a_next a_skip a_last a_whole a_edges a_covers a_weighs a_numbers a_takes a_takenAt)) (QR (some (.int (iI r)))) 0 0 (fun _ => False) := by
  refine Met.ofW (cc := cX8_misses) (maxL := 5) (ret := (some .int)) (by decide) rfl ?_
  intro p e s m args below meth c s₁ B hml hv
  obtain ⟨hav, hP, hK⟩ := hv
  have hx := B.exec
  have hb := B.bytes
  have hr := B.returns
  have hts := atoms_spec (ws := wsX8_misses) B.pre
  have hown : s.vm.findClass RX8 = some m.cls := findClass_of_methodNamed B.named
  have hlk := B.notSynchronized
  have hf17 : (Cond.fieldLink RX8 17 "KeywordMatcherModel" "length" "[I").before args s = true := hts _ (List.mem_of_getElem? (i := 1) rfl)
  have hiX8 : ∀ w ∈ wsX80, w ∈ wsX8_misses := fun w h => List.mem_cons_of_mem _ (List.mem_append_right _ h)
  have hf42 : (Cond.fieldLink RX8 42 "KeywordMatcherModel" "stream" "[I").before args s = true := hts _ (List.mem_of_getElem? (i := 2) rfl)
  have hl := lv_entry ([.ref (ad 0), .int (iI pz1), .int (iI pz2)]) (n := 5) (Nat.le_of_ble_eq_true rfl)
  rw [show entryFrame m args 5 = entryFrame m ([.ref (ad 0), .int (iI pz1), .int (iI pz2)] : List Value).toArray 5 from by rw [hav], lg_entry_eq]
  generalize (lg_sl ([.ref (ad 0), .int (iI pz1), .int (iI pz2)]) ++ List.replicate (5 - (lg_sl ([.ref (ad 0), .int (iI pz1), .int (iI pz2)])).length) Slot.unset).toArray = ls at hl ⊢
  have hl : lv_has ls 5 [(0, .ref (ad 0)), (1, .int (iI pz1)), (2, .int (iI pz2))] := hl
  unfold s_X8_misses at hs
  have Lz5 : ∀ (fu : Nat) (l1 : Int) (l2 : Int) (l3 : Int) (l4 : Int) (y0 : Int), s_X8_misses_5 fu x_isFolding a_length a_bytes a_stream l1 l2 l3 l4 = some y0 → ∀ ls : Array Slot, lv_has ls 5 [(0, .ref (ad 0)), (1, .int (iI l1)), (2, .int (iI l2)), (3, .int (iI l3)), (4, .int (iI l4))] → (∀ ls : Array Slot, lv_has ls 5 [(3, .int (iI y0))] → W p l e (headSpec wsX8_misses rm_X8_misses).room s m args below meth c s.heap [] 0 0 (MQ below (QR (some (.int (iI r)))) args s 0 0 (fun _ => False)) (F0 m 53 ls [])) → W p l e (headSpec wsX8_misses rm_X8_misses).room s m args below meth c s.heap [] 0 0 (MQ below (QR (some (.int (iI r)))) args s 0 0 (fun _ => False)) (F0 m 5 ls []) := by
    intro fu
    induction fu with
    | zero => intro l1 l2 l3 l4 y0 hs; cases hs
    | succ fu ih =>
      intro l1 l2 l3 l4 y0 hs ls hl kx
      rw [s_X8_misses_5_s] at hs
      refine lv_iload hx hb dX8_misses_5 (lv_at hl 4 rfl) ?_
      refine lv_aload_n hx hb dX8_misses_7 rfl (lv_at hl 0 rfl) ?_
      refine va_get (ci := 8) (v := .ref (ad 2)) (C := RX8) (T := TX8) (N := 42) hx hb hts hiX8 hown hK hP 0 rfl rfl 3 (by decide) hf17 (fun _ h9 => h9) rfl dX8_misses_8 ?_
      refine lv_iload_n hx hb dX8_misses_11 rfl (lv_at hl 1 rfl) ?_
      refine k_iald hx hb hK hP 2 0 rfl rfl (Nat.le_of_ble_eq_true rfl) hs dX8_misses_12 (fun vz1 hs => ?_)
      refine k_icmp_ge (tgt := 53) hx hb hs dX8_misses_13 (by decide) (fun hs => ?_) (fun hs => ?_)
      · refine lv_iload_n hx hb dX8_misses_16 rfl (lv_at hl 3 rfl) ?_
        refine lv_aload_n hx hb dX8_misses_17 rfl (lv_at hl 0 rfl) ?_
        refine lv_aload_n hx hb dX8_misses_18 rfl (lv_at hl 0 rfl) ?_
        refine lv_iload_n hx hb dX8_misses_19 rfl (lv_at hl 1 rfl) ?_
        refine lv_iload hx hb dX8_misses_20 (lv_at hl 4 rfl) ?_
        obtain ⟨vz2, hcz, hs⟩ := bd1_some hs
        refine k_rV (As := [.int (iI l1), .int (iI l4)]) (rest := [.ref (ad 0), .int (iI l3)]) (st1 := [.int (iI vz2), .ref (ad 0), .int (iI l3)]) ⟨hx, hb, hml, hown, hts⟩ hK hP (c_X8_byteOf l D cI cZ cJ hcz) (cwV 2 hts gX8_misses_X8_byteOf rfl rfl rfl (by decide +kernel) ⟨Nat.le_of_ble_eq_true rfl, Nat.le_of_ble_eq_true rfl⟩) 0 rfl rfl rfl rfl hl.1 rfl (lv_room (Nat.le_of_ble_eq_true rfl)) dX8_misses_22 ⟨Nat.zero_le _, Nat.zero_le _⟩ rfl ?_
        refine lv_aload_n hx hb dX8_misses_25 rfl (lv_at hl 0 rfl) ?_
        refine va_get (ci := 8) (v := .ref (ad 10)) (C := RX8) (T := TX8) (N := 42) hx hb hts hiX8 hown hK hP 0 rfl rfl 15 (by decide) hf42 (fun _ h9 => h9) rfl dX8_misses_26 ?_
        refine lv_iload_n hx hb dX8_misses_29 rfl (lv_at hl 2 rfl) ?_
        refine lv_iload hx hb dX8_misses_30 (lv_at hl 4 rfl) ?_
        refine k_iadd hx hb dX8_misses_32 ?_
        refine k_iald hx hb hK hP 10 0 rfl rfl (Nat.le_of_ble_eq_true rfl) hs dX8_misses_33 (fun vz3 hs => ?_)
        obtain ⟨vz4, hcz, hs⟩ := bd1_some hs
        refine k_rV (As := [.int (iI vz2), .int (iI vz3)]) (rest := [.int (iI l3)]) (st1 := [.int (iI vz4), .int (iI l3)]) ⟨hx, hb, hml, hown, hts⟩ hK hP (c_X8_like l D cI cZ cJ hcz) (cwV 2 hts gX8_misses_X8_like rfl rfl rfl (by decide +kernel) ⟨Nat.le_of_ble_eq_true rfl, Nat.le_of_ble_eq_true rfl⟩) 0 rfl rfl rfl rfl hl.1 rfl (lv_room (Nat.le_of_ble_eq_true rfl)) dX8_misses_34 ⟨Nat.zero_le _, Nat.zero_le _⟩ rfl ?_
        refine k_if_eq (tgt := 44) hx hb hs dX8_misses_37 (by decide) (fun hs => ?_) (fun hs => ?_)
        · refine k_iconst (n := 1) hx hb dX8_misses_44 ?_
          refine k_iadd hx hb dX8_misses_45 ?_
          refine lv_istore_n (lv' := [(3, .int (iI (l3 + 1))), (0, .ref (ad 0)), (1, .int (iI l1)), (2, .int (iI l2)), (4, .int (iI l4))]) hx hb dX8_misses_46 rfl hl (by decide) rfl (fun ls hl => ?_)
          refine k_iinc (x := l4) (k := 4) (lv' := [(4, .int (iI (l4 + 1))), (3, .int (iI (l3 + 1))), (0, .ref (ad 0)), (1, .int (iI l1)), (2, .int (iI l2))]) hx hb dX8_misses_47 hl rfl (by decide) rfl (fun ls hl => ?_)
          refine lv_goto (tgt := 5) hx hb dX8_misses_50 (by decide) ?_
          exact ih l1 l2 (l3 + 1) (l4 + 1) y0 hs ls (lv_sub hl [2, 3, 4, 1, 0] rfl) kx
        · refine k_iconst (n := 0) hx hb dX8_misses_40 ?_
          refine lv_goto (tgt := 45) hx hb dX8_misses_41 (by decide) ?_
          refine k_iadd hx hb dX8_misses_45 ?_
          refine lv_istore_n (lv' := [(3, .int (iI (l3 + 0))), (0, .ref (ad 0)), (1, .int (iI l1)), (2, .int (iI l2)), (4, .int (iI l4))]) hx hb dX8_misses_46 rfl hl (by decide) rfl (fun ls hl => ?_)
          refine k_iinc (x := l4) (k := 4) (lv' := [(4, .int (iI (l4 + 1))), (3, .int (iI (l3 + 0))), (0, .ref (ad 0)), (1, .int (iI l1)), (2, .int (iI l2))]) hx hb dX8_misses_47 hl rfl (by decide) rfl (fun ls hl => ?_)
          refine lv_goto (tgt := 5) hx hb dX8_misses_50 (by decide) ?_
          exact ih l1 l2 (l3 + 0) (l4 + 1) y0 hs ls (lv_sub hl [2, 3, 4, 1, 0] rfl) kx
      · cases hs
        exact kx ls (lv_sub hl [3] rfl)
  refine k_iconst (n := 0) hx hb dX8_misses_0 ?_
  refine lv_istore_n (lv' := [(3, .int (iI 0)), (0, .ref (ad 0)), (1, .int (iI pz1)), (2, .int (iI pz2))]) hx hb dX8_misses_1 rfl hl (by decide) rfl (fun ls hl => ?_)
  refine k_iconst (n := 0) hx hb dX8_misses_2 ?_
  refine lv_istore (lv' := [(4, .int (iI 0)), (3, .int (iI 0)), (0, .ref (ad 0)), (1, .int (iI pz1)), (2, .int (iI pz2))]) hx hb dX8_misses_3 hl (by decide) rfl (fun ls hl => ?_)
  obtain ⟨ez5, hq, hs⟩ := bd1_some hs
  refine Lz5 FU pz1 pz2 0 0 ez5 hq ls (lv_sub hl [2, 3, 4, 1, 0] rfl) ?_
  intro ls hl
  refine lv_iload_n hx hb dX8_misses_53 rfl (lv_at hl 0 rfl) ?_
  cases hs
  exact k_iret_r hx hb hr hlk rfl dX8_misses_54 rfl
/-! X8_nearMatchCount -/
noncomputable def s_X8_nearMatchCount_36 (fu : Nat) : Int → Int → (Int → Int) → (Int → Int) → (Int → Int) → Int → Int → Int → Int → Option (Int) := Nat.rec (motive := fun _ => Int → Int → (Int → Int) → (Int → Int) → (Int → Int) → Int → Int → Int → Int → Option (Int)) (fun _ _ _ _ _ _ _ _ _ => none) (fun _ ih x_isFolding x_streamed a_length a_bytes a_stream l1 l2 l3 l4 => (rdA a_length 120 l1).bind (fun vz3 => cLt x_streamed (l4 + vz3) (some l3) (bd1 (s_X8_misses x_isFolding a_length a_bytes a_stream l1 l4) (fun vz4 => cLt l2 vz4 (ih x_isFolding x_streamed a_length a_bytes a_stream l1 l2 (l3 + 0) (l4 + 1)) (ih x_isFolding x_streamed a_length a_bytes a_stream l1 l2 (l3 + 1) (l4 + 1)))))) fu
theorem s_X8_nearMatchCount_36_s (fu : Nat) (x_isFolding : Int) (x_streamed : Int) (a_length : (Int → Int)) (a_bytes : (Int → Int)) (a_stream : (Int → Int)) (l1 : Int) (l2 : Int) (l3 : Int) (l4 : Int) : s_X8_nearMatchCount_36 (fu + 1) x_isFolding x_streamed a_length a_bytes a_stream l1 l2 l3 l4 = ((rdA a_length 120 l1).bind (fun vz3 => cLt x_streamed (l4 + vz3) (some l3) (bd1 (s_X8_misses x_isFolding a_length a_bytes a_stream l1 l4) (fun vz4 => cLt l2 vz4 (s_X8_nearMatchCount_36 fu x_isFolding x_streamed a_length a_bytes a_stream l1 l2 (l3 + 0) (l4 + 1)) (s_X8_nearMatchCount_36 fu x_isFolding x_streamed a_length a_bytes a_stream l1 l2 (l3 + 1) (l4 + 1)))))) := rfl
theorem s_X8_nearMatchCount_36_z (x_isFolding : Int) (x_streamed : Int) (a_length : (Int → Int)) (a_bytes : (Int → Int)) (a_stream : (Int → Int)) (l1 : Int) (l2 : Int) (l3 : Int) (l4 : Int) : s_X8_nearMatchCount_36 0 x_isFolding x_streamed a_length a_bytes a_stream l1 l2 l3 l4 = none := rfl
noncomputable def s_X8_nearMatchCount (x_thrown : Int) (x_given : Int) (x_isFolding : Int) (x_streamed : Int) (a_length : (Int → Int)) (a_bytes : (Int → Int)) (a_live : (Int → Int)) (a_stream : (Int → Int)) (pz1 : Int) (pz2 : Int) : Option (Int × Int) := bd1 (s_X8_isLiveOne x_given a_live pz1) (fun vz1 => cEq vz1 0 (some ((-2), 0)) (cR pz2 (bd1 (s_X8_isIn pz2 0 3) (fun vz2 => cEq vz2 0 (some ((-3), 0)) (bd1 (s_X8_nearMatchCount_36 FU x_isFolding x_streamed a_length a_bytes a_stream pz1 pz2 0 0) (fun ez5 => some (ez5, 0)))))))
def rm_X8_nearMatchCount : Room := { frames := 4, cells := 0, slots := 0, locals := 92 }
set_option maxHeartbeats 4000000 in
set_option maxRecDepth 100000 in
theorem c_X8_nearMatchCount (l : Launch) (D : va_G) (cI cZ cJ : ClassId) {ad : Nat → Nat} {x_thrown : Int} {x_buffered : Int} {x_given : Int} {x_isFolding : Int} {x_work : Int} {x_rebuilt : Int} {x_streamed : Int} {x_reports : Int} {x_gapFrom : Int} {x_gapSize : Int} {x_elements : Int} {x_wholeSize : Int} {x_isLaid : Int} {x_takenMany : Int} {a_buffer : (Int → Int)} {a_length : (Int → Int)} {a_bytes : (Int → Int)} {a_weight : (Int → Int)} {a_live : (Int → Int)} {a_size : (Int → Int)} {a_list : (Int → Int)} {a_moved : (Int → Int)} {a_planned : (Int → Int)} {a_stream : (Int → Int)} {a_reportedEnd : (Int → Int)} {a_reportedKeyword : (Int → Int)} {a_starts : (Int → Int)} {a_keywordAt : (Int → Int)} {a_element : (Int → Int)} {a_long1 : (Int → Int)} {a_head : (Int → Int)} {a_tail : (Int → Int)} {a_next : (Int → Int)} {a_skip : (Int → Int)} {a_last : (Int → Int)} {a_whole : (Int → Int)} {a_edges : (Int → Int)} {a_covers : (Int → Int)} {a_weighs : (Int → Int)} {a_numbers : (Int → Int)} {a_takes : (Int → Int)} {a_takenAt : (Int → Int)} {pz1 : Int} {pz2 : Int} {r : Int} {y_x_thrown : Int} {sz : Nat} (hs : s_X8_nearMatchCount x_thrown x_given x_isFolding x_streamed a_length a_bytes a_live a_stream pz1 pz2 = some (r, y_x_thrown)) : Met l yX8_nearMatchCount wsX8_nearMatchCount rm_X8_nearMatchCount (PW D vwCl [(cI, .int), (cZ, .boolean), (cJ, .long)] [.ref (ad 0), .int (iI pz1), .int (iI pz2)] (wM cI cZ cJ ad x_thrown x_buffered x_given x_isFolding x_work x_rebuilt x_streamed x_reports x_gapFrom x_gapSize x_elements x_wholeSize x_isLaid x_takenMany a_buffer a_length a_bytes a_weight a_live a_size a_list a_moved a_planned a_stream a_reportedEnd a_reportedKeyword a_starts a_keywordAt a_element a_long1 a_head a_tail a_next a_skip a_last a_whole a_edges a_covers a_weighs a_numbers a_takes a_takenAt) sz) (QW D vwCl (some (.int (iI r))) (wM cI cZ cJ ad y_x_thrown x_buffered x_given x_isFolding x_work x_rebuilt x_streamed x_reports x_gapFrom x_gapSize x_elements x_wholeSize x_isLaid x_takenMany a_buffer a_length a_bytes a_weight a_live a_size a_list a_moved a_planned a_stream a_reportedEnd a_reportedKeyword a_starts a_keywordAt a_element a_long1 a_head a_tail a_next a_skip a_last a_whole a_edges a_covers a_weighs a_numbers a_takes a_takenAt) (va_A (wM cI cZ cJ ad x_thrown x_buffered x_given x_isFolding x_work x_rebuilt x_streamed x_reports x_gapFrom x_gapSize x_elements x_wholeSize x_isLaid x_takenMany a_buffer a_length a_bytes a_weight a_live a_size a_list a_moved a_planned a_stream a_reportedEnd a_reportedKeyword a_starts a_keywordAt a_element a_long1 a_head a_tail a_next a_skip a_last a_whole a_edges a_covers a_weighs a_numbers a_takes a_takenAt) sz)) 0 0 (va_A (wM cI cZ cJ ad x_thrown x_buffered x_given x_isFolding x_work x_rebuilt x_streamed x_reports x_gapFrom x_gapSize x_elements x_wholeSize x_isLaid x_takenMany a_buffer a_length a_bytes a_weight a_live a_size a_list a_moved a_planned a_stream a_reportedEnd a_reportedKeyword a_starts a_keywordAt a_element a_long1 a_head a_tail a_next a_skip a_last a_whole a_edges a_covers a_weighs a_numbers a_takes a_takenAt) sz) := by
  refine Met.ofW (cc := cX8_nearMatchCount) (maxL := 5) (ret := (some .int)) (by decide) rfl ?_
  intro p e s m args below meth c s₁ B hml hv
  obtain ⟨hav, hsz, hP, hK, hD0⟩ := hv
  have hx := B.exec
  have hb := B.bytes
  have hr := B.returns
  have hts := atoms_spec (ws := wsX8_nearMatchCount) B.pre
  have hown : s.vm.findClass RX8 = some m.cls := findClass_of_methodNamed B.named
  have hlk := B.notSynchronized
  have hf1 : (Cond.fieldLink RX8 1 "KeywordMatcherModel" "thrown" "I").before args s = true := hts _ (List.mem_of_getElem? (i := 1) rfl)
  have hiX8 : ∀ w ∈ wsX80, w ∈ wsX8_nearMatchCount := fun w h => List.mem_cons_of_mem _ (List.mem_append_right _ h)
  have hc230 : (Cond.constantLong RX8 230 (3)).before args s = true := hts _ (List.mem_of_getElem? (i := 2) rfl)
  have hf17 : (Cond.fieldLink RX8 17 "KeywordMatcherModel" "length" "[I").before args s = true := hts _ (List.mem_of_getElem? (i := 3) rfl)
  have hf170 : (Cond.fieldLink RX8 170 "KeywordMatcherModel" "streamed" "I").before args s = true := hts _ (List.mem_of_getElem? (i := 4) rfl)
  subst hsz
  have hD := hD0.self (sz := s.heap.size)
  generalize hAe : va_A (wM cI cZ cJ ad x_thrown x_buffered x_given x_isFolding x_work x_rebuilt x_streamed x_reports x_gapFrom x_gapSize x_elements x_wholeSize x_isLaid x_takenMany a_buffer a_length a_bytes a_weight a_live a_size a_list a_moved a_planned a_stream a_reportedEnd a_reportedKeyword a_starts a_keywordAt a_element a_long1 a_head a_tail a_next a_skip a_last a_whole a_edges a_covers a_weighs a_numbers a_takes a_takenAt) s.heap.size = Az at hD ⊢
  have hA : ∀ q : Nat, s.heap.size ≤ q → Az q := fun q h => by rw [← hAe]; exact Or.inr h
  clear hAe
  have hSz : va_S Az s.heap s.heap [] := va_S.rf
  obtain ⟨wz, hw1⟩ : ∃ z : va_W, z = (wM cI cZ cJ ad y_x_thrown x_buffered x_given x_isFolding x_work x_rebuilt x_streamed x_reports x_gapFrom x_gapSize x_elements x_wholeSize x_isLaid x_takenMany a_buffer a_length a_bytes a_weight a_live a_size a_list a_moved a_planned a_stream a_reportedEnd a_reportedKeyword a_starts a_keywordAt a_element a_long1 a_head a_tail a_next a_skip a_last a_whole a_edges a_covers a_weighs a_numbers a_takes a_takenAt) := ⟨_, rfl⟩
  rw [← hw1]
  have hl := lv_entry ([.ref (ad 0), .int (iI pz1), .int (iI pz2)]) (n := 5) (Nat.le_of_ble_eq_true rfl)
  rw [show entryFrame m args 5 = entryFrame m ([.ref (ad 0), .int (iI pz1), .int (iI pz2)] : List Value).toArray 5 from by rw [hav], lg_entry_eq]
  generalize (lg_sl ([.ref (ad 0), .int (iI pz1), .int (iI pz2)]) ++ List.replicate (5 - (lg_sl ([.ref (ad 0), .int (iI pz1), .int (iI pz2)])).length) Slot.unset).toArray = ls at hl ⊢
  have hl : lv_has ls 5 [(0, .ref (ad 0)), (1, .int (iI pz1)), (2, .int (iI pz2))] := hl
  unfold s_X8_nearMatchCount at hs
  have Lz36 : ∀ (fu : Nat) (x_thrown : Int) (l1 : Int) (l2 : Int) (l3 : Int) (l4 : Int) (y0 : Int), s_X8_nearMatchCount_36 fu x_isFolding x_streamed a_length a_bytes a_stream l1 l2 l3 l4 = some y0 → ∀ (Hz : Heap) (lz : List Loc), va_P D vwCl (wM cI cZ cJ ad x_thrown x_buffered x_given x_isFolding x_work x_rebuilt x_streamed x_reports x_gapFrom x_gapSize x_elements x_wholeSize x_isLaid x_takenMany a_buffer a_length a_bytes a_weight a_live a_size a_list a_moved a_planned a_stream a_reportedEnd a_reportedKeyword a_starts a_keywordAt a_element a_long1 a_head a_tail a_next a_skip a_last a_whole a_edges a_covers a_weighs a_numbers a_takes a_takenAt) Hz → va_D Az (wM cI cZ cJ ad x_thrown x_buffered x_given x_isFolding x_work x_rebuilt x_streamed x_reports x_gapFrom x_gapSize x_elements x_wholeSize x_isLaid x_takenMany a_buffer a_length a_bytes a_weight a_live a_size a_list a_moved a_planned a_stream a_reportedEnd a_reportedKeyword a_starts a_keywordAt a_element a_long1 a_head a_tail a_next a_skip a_last a_whole a_edges a_covers a_weighs a_numbers a_takes a_takenAt) → va_S Az s.heap Hz lz → ∀ ls : Array Slot, lv_has ls 5 [(0, .ref (ad 0)), (1, .int (iI l1)), (2, .int (iI l2)), (3, .int (iI l3)), (4, .int (iI l4))] → (∀ (Hz : Heap) (lz : List Loc), va_P D vwCl (wM cI cZ cJ ad x_thrown x_buffered x_given x_isFolding x_work x_rebuilt x_streamed x_reports x_gapFrom x_gapSize x_elements x_wholeSize x_isLaid x_takenMany a_buffer a_length a_bytes a_weight a_live a_size a_list a_moved a_planned a_stream a_reportedEnd a_reportedKeyword a_starts a_keywordAt a_element a_long1 a_head a_tail a_next a_skip a_last a_whole a_edges a_covers a_weighs a_numbers a_takes a_takenAt) Hz → va_D Az (wM cI cZ cJ ad x_thrown x_buffered x_given x_isFolding x_work x_rebuilt x_streamed x_reports x_gapFrom x_gapSize x_elements x_wholeSize x_isLaid x_takenMany a_buffer a_length a_bytes a_weight a_live a_size a_list a_moved a_planned a_stream a_reportedEnd a_reportedKeyword a_starts a_keywordAt a_element a_long1 a_head a_tail a_next a_skip a_last a_whole a_edges a_covers a_weighs a_numbers a_takes a_takenAt) → va_S Az s.heap Hz lz → ∀ ls : Array Slot, lv_has ls 5 [(3, .int (iI y0))] → W p l e (headSpec wsX8_nearMatchCount rm_X8_nearMatchCount).room s m args below meth c Hz lz 0 0 (MQ below (QW D vwCl (some (.int (iI r))) wz Az) args s 0 0 Az) (F0 m 77 ls [])) → W p l e (headSpec wsX8_nearMatchCount rm_X8_nearMatchCount).room s m args below meth c Hz lz 0 0 (MQ below (QW D vwCl (some (.int (iI r))) wz Az) args s 0 0 Az) (F0 m 36 ls []) := by
    intro fu
    induction fu with
    | zero => intro x_thrown l1 l2 l3 l4 y0 hs; cases hs
    | succ fu ih =>
      intro x_thrown l1 l2 l3 l4 y0 hs Hz lz hP hD hSz ls hl kx
      rw [s_X8_nearMatchCount_36_s] at hs
      refine lv_iload hx hb dX8_nearMatchCount_36 (lv_at hl 4 rfl) ?_
      refine lv_aload_n hx hb dX8_nearMatchCount_38 rfl (lv_at hl 0 rfl) ?_
      refine va_get (ci := 8) (v := .ref (ad 2)) (C := RX8) (T := TX8) (N := 42) hx hb hts hiX8 hown hK hP 0 rfl rfl 3 (by decide) hf17 (fun _ h9 => h9) rfl dX8_nearMatchCount_39 ?_
      refine lv_iload_n hx hb dX8_nearMatchCount_42 rfl (lv_at hl 1 rfl) ?_
      refine k_iald hx hb hK hP 2 0 rfl rfl (Nat.le_of_ble_eq_true rfl) hs dX8_nearMatchCount_43 (fun vz3 hs => ?_)
      refine k_iadd hx hb dX8_nearMatchCount_44 ?_
      refine lv_aload_n hx hb dX8_nearMatchCount_45 rfl (lv_at hl 0 rfl) ?_
      refine va_get (ci := 8) (v := .int (iI x_streamed)) (C := RX8) (T := TX8) (N := 42) hx hb hts hiX8 hown hK hP 0 rfl rfl 18 (by decide) hf170 (fun _ h9 => h9) rfl dX8_nearMatchCount_46 ?_
      refine k_icmp_gt (tgt := 77) hx hb hs dX8_nearMatchCount_49 (by decide) (fun hs => ?_) (fun hs => ?_)
      · cases hs
        exact kx Hz lz hP hD hSz ls (lv_sub hl [3] rfl)
      · refine lv_iload_n hx hb dX8_nearMatchCount_52 rfl (lv_at hl 3 rfl) ?_
        refine lv_aload_n hx hb dX8_nearMatchCount_53 rfl (lv_at hl 0 rfl) ?_
        refine lv_iload_n hx hb dX8_nearMatchCount_54 rfl (lv_at hl 1 rfl) ?_
        refine lv_iload hx hb dX8_nearMatchCount_55 (lv_at hl 4 rfl) ?_
        obtain ⟨vz4, hcz, hs⟩ := bd1_some hs
        refine k_rV (As := [.int (iI l1), .int (iI l4)]) (rest := [.int (iI l3)]) (st1 := [.int (iI vz4), .int (iI l3)]) ⟨hx, hb, hml, hown, hts⟩ hK hP (c_X8_misses l D cI cZ cJ hcz) (cwV 2 hts gX8_nearMatchCount_X8_misses rfl rfl rfl (by decide +kernel) ⟨Nat.le_of_ble_eq_true rfl, Nat.le_of_ble_eq_true rfl⟩) 0 rfl rfl rfl rfl hl.1 rfl (lv_room (Nat.le_of_ble_eq_true rfl)) dX8_nearMatchCount_57 ⟨Nat.zero_le _, Nat.zero_le _⟩ rfl ?_
        refine lv_iload_n hx hb dX8_nearMatchCount_60 rfl (lv_at hl 2 rfl) ?_
        refine k_icmp_gt (tgt := 68) hx hb hs dX8_nearMatchCount_61 (by decide) (fun hs => ?_) (fun hs => ?_)
        · refine k_iconst (n := 0) hx hb dX8_nearMatchCount_68 ?_
          refine k_iadd hx hb dX8_nearMatchCount_69 ?_
          refine lv_istore_n (lv' := [(3, .int (iI (l3 + 0))), (0, .ref (ad 0)), (1, .int (iI l1)), (2, .int (iI l2)), (4, .int (iI l4))]) hx hb dX8_nearMatchCount_70 rfl hl (by decide) rfl (fun ls hl => ?_)
          refine k_iinc (x := l4) (k := 4) (lv' := [(4, .int (iI (l4 + 1))), (3, .int (iI (l3 + 0))), (0, .ref (ad 0)), (1, .int (iI l1)), (2, .int (iI l2))]) hx hb dX8_nearMatchCount_71 hl rfl (by decide) rfl (fun ls hl => ?_)
          refine lv_goto (tgt := 36) hx hb dX8_nearMatchCount_74 (by decide) ?_
          exact ih x_thrown l1 l2 (l3 + 0) (l4 + 1) y0 hs Hz lz hP hD hSz ls (lv_sub hl [2, 3, 4, 1, 0] rfl) kx
        · refine k_iconst (n := 1) hx hb dX8_nearMatchCount_64 ?_
          refine lv_goto (tgt := 69) hx hb dX8_nearMatchCount_65 (by decide) ?_
          refine k_iadd hx hb dX8_nearMatchCount_69 ?_
          refine lv_istore_n (lv' := [(3, .int (iI (l3 + 1))), (0, .ref (ad 0)), (1, .int (iI l1)), (2, .int (iI l2)), (4, .int (iI l4))]) hx hb dX8_nearMatchCount_70 rfl hl (by decide) rfl (fun ls hl => ?_)
          refine k_iinc (x := l4) (k := 4) (lv' := [(4, .int (iI (l4 + 1))), (3, .int (iI (l3 + 1))), (0, .ref (ad 0)), (1, .int (iI l1)), (2, .int (iI l2))]) hx hb dX8_nearMatchCount_71 hl rfl (by decide) rfl (fun ls hl => ?_)
          refine lv_goto (tgt := 36) hx hb dX8_nearMatchCount_74 (by decide) ?_
          exact ih x_thrown l1 l2 (l3 + 1) (l4 + 1) y0 hs Hz lz hP hD hSz ls (lv_sub hl [2, 3, 4, 1, 0] rfl) kx
  refine (?_ : ∀ (Hz : Heap) (lz : List Loc), va_P D vwCl (wM cI cZ cJ ad x_thrown x_buffered x_given x_isFolding x_work x_rebuilt x_streamed x_reports x_gapFrom x_gapSize x_elements x_wholeSize x_isLaid x_takenMany a_buffer a_length a_bytes a_weight a_live a_size a_list a_moved a_planned a_stream a_reportedEnd a_reportedKeyword a_starts a_keywordAt a_element a_long1 a_head a_tail a_next a_skip a_last a_whole a_edges a_covers a_weighs a_numbers a_takes a_takenAt) Hz → va_D Az (wM cI cZ cJ ad x_thrown x_buffered x_given x_isFolding x_work x_rebuilt x_streamed x_reports x_gapFrom x_gapSize x_elements x_wholeSize x_isLaid x_takenMany a_buffer a_length a_bytes a_weight a_live a_size a_list a_moved a_planned a_stream a_reportedEnd a_reportedKeyword a_starts a_keywordAt a_element a_long1 a_head a_tail a_next a_skip a_last a_whole a_edges a_covers a_weighs a_numbers a_takes a_takenAt) → va_S Az s.heap Hz lz → W p l e (headSpec wsX8_nearMatchCount rm_X8_nearMatchCount).room s m args below meth c Hz lz 0 0 (MQ below (QW D vwCl (some (.int (iI r))) wz Az) args s 0 0 Az) (F0 m 0 ls [])) s.heap [] hP hD hSz
  intro Hz lz hP hD hSz
  refine lv_aload_n hx hb dX8_nearMatchCount_0 rfl (lv_at hl 0 rfl) ?_
  refine k_iconst (n := 0) hx hb dX8_nearMatchCount_1 ?_
  refine va_put (ci := 8) (v := .int (iI 0)) (ty := .int) (C := RX8) (T := TX8) (N := 42) hx hb hts hiX8 tyX8 tyX8_ok nmX8 hown hK hP hD hSz 0 rfl rfl 0 (by decide) hf1 (fun _ h9 => h9) rfl (by decide +kernel) rfl rfl (Nat.le_of_ble_eq_true rfl) dX8_nearMatchCount_2 (fun Hz lz hP hD hSz => ?_)
  have hP : va_P D vwCl (wM cI cZ cJ ad 0 x_buffered x_given x_isFolding x_work x_rebuilt x_streamed x_reports x_gapFrom x_gapSize x_elements x_wholeSize x_isLaid x_takenMany a_buffer a_length a_bytes a_weight a_live a_size a_list a_moved a_planned a_stream a_reportedEnd a_reportedKeyword a_starts a_keywordAt a_element a_long1 a_head a_tail a_next a_skip a_last a_whole a_edges a_covers a_weighs a_numbers a_takes a_takenAt) Hz := hP
  have hD : va_D Az (wM cI cZ cJ ad 0 x_buffered x_given x_isFolding x_work x_rebuilt x_streamed x_reports x_gapFrom x_gapSize x_elements x_wholeSize x_isLaid x_takenMany a_buffer a_length a_bytes a_weight a_live a_size a_list a_moved a_planned a_stream a_reportedEnd a_reportedKeyword a_starts a_keywordAt a_element a_long1 a_head a_tail a_next a_skip a_last a_whole a_edges a_covers a_weighs a_numbers a_takes a_takenAt) := hD
  refine lv_aload_n hx hb dX8_nearMatchCount_5 rfl (lv_at hl 0 rfl) ?_
  refine lv_iload_n hx hb dX8_nearMatchCount_6 rfl (lv_at hl 1 rfl) ?_
  obtain ⟨vz1, hcz, hs⟩ := bd1_some hs
  refine k_rV (As := [.int (iI pz1)]) (rest := []) (st1 := [.int (iI vz1)]) ⟨hx, hb, hml, hown, hts⟩ hK hP (c_X8_isLiveOne l D cI cZ cJ hcz) (cwV 1 hts gX8_nearMatchCount_X8_isLiveOne rfl rfl rfl (by decide +kernel) ⟨Nat.le_of_ble_eq_true rfl, Nat.le_of_ble_eq_true rfl⟩) 0 rfl rfl rfl rfl hl.1 rfl (lv_room (Nat.le_of_ble_eq_true rfl)) dX8_nearMatchCount_7 ⟨Nat.zero_le _, Nat.zero_le _⟩ rfl ?_
  refine k_if_ne (tgt := 16) hx hb hs dX8_nearMatchCount_10 (by decide) (fun hs => ?_) (fun hs => ?_)
  · refine k_bipush (n := (-2)) hx hb (by decide) dX8_nearMatchCount_13 ?_
    cases hs
    exact k_iret_w hx hb hr hlk (by rw [hw1]; exact hP) hSz dX8_nearMatchCount_15 rfl
  · refine lv_iload_n hx hb dX8_nearMatchCount_16 rfl (lv_at hl 2 rfl) ?_
    refine k_i2l hx hb hs dX8_nearMatchCount_17 (fun hs => ?_)
    refine k_lconst (v := 0) hx hb (by decide) dX8_nearMatchCount_18 ?_
    refine k_ldc2 (n := 3) hx hb (by decide) hown hc230 dX8_nearMatchCount_19 ?_
    obtain ⟨vz2, hcz, hs⟩ := bd1_some hs
    refine k_rS (As := [.long (iL pz2), .long (iL 0), .long (iL 3)]) (rest := []) (st1 := [.int (iI vz2)]) ⟨hx, hb, hml, hown, hts⟩ hK (va_P_nil (D := D) (cl := vwCl)) (c_X8_isIn l D cI cZ cJ hcz) (va_cwS 3 hts gX8_nearMatchCount_X8_isIn rfl rfl rfl (by decide +kernel) ⟨Nat.le_of_ble_eq_true rfl, Nat.le_of_ble_eq_true rfl⟩) rfl hl.1 rfl (lv_room (Nat.le_of_ble_eq_true rfl)) dX8_nearMatchCount_22 ⟨Nat.zero_le _, Nat.zero_le _⟩ rfl ?_
    refine k_if_ne (tgt := 31) hx hb hs dX8_nearMatchCount_25 (by decide) (fun hs => ?_) (fun hs => ?_)
    · refine k_bipush (n := (-3)) hx hb (by decide) dX8_nearMatchCount_28 ?_
      cases hs
      exact k_iret_w hx hb hr hlk (by rw [hw1]; exact hP) hSz dX8_nearMatchCount_30 rfl
    · refine k_iconst (n := 0) hx hb dX8_nearMatchCount_31 ?_
      refine lv_istore_n (lv' := [(3, .int (iI 0)), (0, .ref (ad 0)), (1, .int (iI pz1)), (2, .int (iI pz2))]) hx hb dX8_nearMatchCount_32 rfl hl (by decide) rfl (fun ls hl => ?_)
      refine k_iconst (n := 0) hx hb dX8_nearMatchCount_33 ?_
      refine lv_istore (lv' := [(4, .int (iI 0)), (3, .int (iI 0)), (0, .ref (ad 0)), (1, .int (iI pz1)), (2, .int (iI pz2))]) hx hb dX8_nearMatchCount_34 hl (by decide) rfl (fun ls hl => ?_)
      obtain ⟨ez5, hq, hs⟩ := bd1_some hs
      refine Lz36 FU 0 pz1 pz2 0 0 ez5 hq Hz lz hP hD hSz ls (lv_sub hl [2, 3, 4, 1, 0] rfl) ?_
      intro Hz lz hP hD hSz ls hl
      refine lv_iload_n hx hb dX8_nearMatchCount_77 rfl (lv_at hl 0 rfl) ?_
      cases hs
      exact k_iret_w hx hb hr hlk (by rw [hw1]; exact hP) hSz dX8_nearMatchCount_78 rfl
/-! X8_nearest -/
noncomputable def s_X8_nearest_4 (fu : Nat) : Int → Int → (Int → Int) → (Int → Int) → (Int → Int) → Int → Int → Int → Option (Int) := Nat.rec (motive := fun _ => Int → Int → (Int → Int) → (Int → Int) → (Int → Int) → Int → Int → Int → Option (Int)) (fun _ _ _ _ _ _ _ _ => none) (fun _ ih x_isFolding x_streamed a_length a_bytes a_stream l1 l2 l3 => (rdA a_length 120 l1).bind (fun vz1 => cLt x_streamed (l3 + vz1) (some l2) (cEq l2 (-1) (ih x_isFolding x_streamed a_length a_bytes a_stream l1 l3 (l3 + 1)) (bd1 (s_X8_misses x_isFolding a_length a_bytes a_stream l1 l3) (fun vz2 => bd1 (s_X8_misses x_isFolding a_length a_bytes a_stream l1 l2) (fun vz3 => cLt vz2 vz3 (ih x_isFolding x_streamed a_length a_bytes a_stream l1 l3 (l3 + 1)) (ih x_isFolding x_streamed a_length a_bytes a_stream l1 l2 (l3 + 1)))))))) fu
theorem s_X8_nearest_4_s (fu : Nat) (x_isFolding : Int) (x_streamed : Int) (a_length : (Int → Int)) (a_bytes : (Int → Int)) (a_stream : (Int → Int)) (l1 : Int) (l2 : Int) (l3 : Int) : s_X8_nearest_4 (fu + 1) x_isFolding x_streamed a_length a_bytes a_stream l1 l2 l3 = ((rdA a_length 120 l1).bind (fun vz1 => cLt x_streamed (l3 + vz1) (some l2) (cEq l2 (-1) (s_X8_nearest_4 fu x_isFolding x_streamed a_length a_bytes a_stream l1 l3 (l3 + 1)) (bd1 (s_X8_misses x_isFolding a_length a_bytes a_stream l1 l3) (fun vz2 => bd1 (s_X8_misses x_isFolding a_length a_bytes a_stream l1 l2) (fun vz3 => cLt vz2 vz3 (s_X8_nearest_4 fu x_isFolding x_streamed a_length a_bytes a_stream l1 l3 (l3 + 1)) (s_X8_nearest_4 fu x_isFolding x_streamed a_length a_bytes a_stream l1 l2 (l3 + 1)))))))) := rfl
theorem s_X8_nearest_4_z (x_isFolding : Int) (x_streamed : Int) (a_length : (Int → Int)) (a_bytes : (Int → Int)) (a_stream : (Int → Int)) (l1 : Int) (l2 : Int) (l3 : Int) : s_X8_nearest_4 0 x_isFolding x_streamed a_length a_bytes a_stream l1 l2 l3 = none := rfl
noncomputable def s_X8_nearest (x_isFolding : Int) (x_streamed : Int) (a_length : (Int → Int)) (a_bytes : (Int → Int)) (a_stream : (Int → Int)) (pz1 : Int) : Option (Int) := bd1 (s_X8_nearest_4 FU x_isFolding x_streamed a_length a_bytes a_stream pz1 (-1) 0) (fun ez4 => some ez4)
def rm_X8_nearest : Room := { frames := 4, cells := 0, slots := 0, locals := 92 }
set_option maxHeartbeats 4000000 in
set_option maxRecDepth 100000 in
theorem c_X8_nearest (l : Launch) (D : va_G) (cI cZ cJ : ClassId) {ad : Nat → Nat} {x_thrown : Int} {x_buffered : Int} {x_given : Int} {x_isFolding : Int} {x_work : Int} {x_rebuilt : Int} {x_streamed : Int} {x_reports : Int} {x_gapFrom : Int} {x_gapSize : Int} {x_elements : Int} {x_wholeSize : Int} {x_isLaid : Int} {x_takenMany : Int} {a_buffer : (Int → Int)} {a_length : (Int → Int)} {a_bytes : (Int → Int)} {a_weight : (Int → Int)} {a_live : (Int → Int)} {a_size : (Int → Int)} {a_list : (Int → Int)} {a_moved : (Int → Int)} {a_planned : (Int → Int)} {a_stream : (Int → Int)} {a_reportedEnd : (Int → Int)} {a_reportedKeyword : (Int → Int)} {a_starts : (Int → Int)} {a_keywordAt : (Int → Int)} {a_element : (Int → Int)} {a_long1 : (Int → Int)} {a_head : (Int → Int)} {a_tail : (Int → Int)} {a_next : (Int → Int)} {a_skip : (Int → Int)} {a_last : (Int → Int)} {a_whole : (Int → Int)} {a_edges : (Int → Int)} {a_covers : (Int → Int)} {a_weighs : (Int → Int)} {a_numbers : (Int → Int)} {a_takes : (Int → Int)} {a_takenAt : (Int → Int)} {pz1 : Int} {r : Int} (hs : s_X8_nearest x_isFolding x_streamed a_length a_bytes a_stream pz1 = some r) : Met l yX8_nearest wsX8_nearest rm_X8_nearest (PR D vwCl [(cI, .int), (cZ, .boolean), (cJ, .long)] [.ref (ad 0), .int (iI pz1)] (wM cI cZ cJ ad x_thrown x_buffered x_given x_isFolding x_work x_rebuilt x_streamed x_reports x_gapFrom x_gapSize x_elements x_wholeSize x_isLaid x_takenMany a_buffer a_length a_bytes a_weight a_live a_size a_list a_moved a_planned a_stream a_reportedEnd a_reportedKeyword a_starts a_keywordAt a_element a_long1 a_head a_tail a_next a_skip a_last a_whole a_edges a_covers a_weighs a_numbers a_takes a_takenAt)) (QR (some (.int (iI r)))) 0 0 (fun _ => False) := by
  refine Met.ofW (cc := cX8_nearest) (maxL := 4) (ret := (some .int)) (by decide) rfl ?_
  intro p e s m args below meth c s₁ B hml hv
  obtain ⟨hav, hP, hK⟩ := hv
  have hx := B.exec
  have hb := B.bytes
  have hr := B.returns
  have hts := atoms_spec (ws := wsX8_nearest) B.pre
  have hown : s.vm.findClass RX8 = some m.cls := findClass_of_methodNamed B.named
  have hlk := B.notSynchronized
  have hf17 : (Cond.fieldLink RX8 17 "KeywordMatcherModel" "length" "[I").before args s = true := hts _ (List.mem_of_getElem? (i := 1) rfl)
  have hiX8 : ∀ w ∈ wsX80, w ∈ wsX8_nearest := fun w h => List.mem_cons_of_mem _ (List.mem_append_right _ h)
  have hf170 : (Cond.fieldLink RX8 170 "KeywordMatcherModel" "streamed" "I").before args s = true := hts _ (List.mem_of_getElem? (i := 2) rfl)
  have hl := lv_entry ([.ref (ad 0), .int (iI pz1)]) (n := 4) (Nat.le_of_ble_eq_true rfl)
  rw [show entryFrame m args 4 = entryFrame m ([.ref (ad 0), .int (iI pz1)] : List Value).toArray 4 from by rw [hav], lg_entry_eq]
  generalize (lg_sl ([.ref (ad 0), .int (iI pz1)]) ++ List.replicate (4 - (lg_sl ([.ref (ad 0), .int (iI pz1)])).length) Slot.unset).toArray = ls at hl ⊢
  have hl : lv_has ls 4 [(0, .ref (ad 0)), (1, .int (iI pz1))] := hl
  unfold s_X8_nearest at hs
  have Lz4 : ∀ (fu : Nat) (l1 : Int) (l2 : Int) (l3 : Int) (y0 : Int), s_X8_nearest_4 fu x_isFolding x_streamed a_length a_bytes a_stream l1 l2 l3 = some y0 → ∀ ls : Array Slot, lv_has ls 4 [(0, .ref (ad 0)), (1, .int (iI l1)), (2, .int (iI l2)), (3, .int (iI l3))] → (∀ ls : Array Slot, lv_has ls 4 [(2, .int (iI y0))] → W p l e (headSpec wsX8_nearest rm_X8_nearest).room s m args below meth c s.heap [] 0 0 (MQ below (QR (some (.int (iI r)))) args s 0 0 (fun _ => False)) (F0 m 47 ls [])) → W p l e (headSpec wsX8_nearest rm_X8_nearest).room s m args below meth c s.heap [] 0 0 (MQ below (QR (some (.int (iI r)))) args s 0 0 (fun _ => False)) (F0 m 4 ls []) := by
    intro fu
    induction fu with
    | zero => intro l1 l2 l3 y0 hs; cases hs
    | succ fu ih =>
      intro l1 l2 l3 y0 hs ls hl kx
      rw [s_X8_nearest_4_s] at hs
      refine lv_iload_n hx hb dX8_nearest_4 rfl (lv_at hl 3 rfl) ?_
      refine lv_aload_n hx hb dX8_nearest_5 rfl (lv_at hl 0 rfl) ?_
      refine va_get (ci := 8) (v := .ref (ad 2)) (C := RX8) (T := TX8) (N := 42) hx hb hts hiX8 hown hK hP 0 rfl rfl 3 (by decide) hf17 (fun _ h9 => h9) rfl dX8_nearest_6 ?_
      refine lv_iload_n hx hb dX8_nearest_9 rfl (lv_at hl 1 rfl) ?_
      refine k_iald hx hb hK hP 2 0 rfl rfl (Nat.le_of_ble_eq_true rfl) hs dX8_nearest_10 (fun vz1 hs => ?_)
      refine k_iadd hx hb dX8_nearest_11 ?_
      refine lv_aload_n hx hb dX8_nearest_12 rfl (lv_at hl 0 rfl) ?_
      refine va_get (ci := 8) (v := .int (iI x_streamed)) (C := RX8) (T := TX8) (N := 42) hx hb hts hiX8 hown hK hP 0 rfl rfl 18 (by decide) hf170 (fun _ h9 => h9) rfl dX8_nearest_13 ?_
      refine k_icmp_gt (tgt := 47) hx hb hs dX8_nearest_16 (by decide) (fun hs => ?_) (fun hs => ?_)
      · cases hs
        exact kx ls (lv_sub hl [2] rfl)
      · refine lv_iload_n hx hb dX8_nearest_19 rfl (lv_at hl 2 rfl) ?_
        refine k_iconst (n := (-1)) hx hb dX8_nearest_20 ?_
        refine k_icmp_eq (tgt := 39) hx hb hs dX8_nearest_21 (by decide) (fun hs => ?_) (fun hs => ?_)
        · refine lv_iload_n hx hb dX8_nearest_39 rfl (lv_at hl 3 rfl) ?_
          refine lv_istore_n (lv' := [(2, .int (iI l3)), (0, .ref (ad 0)), (1, .int (iI l1)), (3, .int (iI l3))]) hx hb dX8_nearest_40 rfl hl (by decide) rfl (fun ls hl => ?_)
          refine k_iinc (x := l3) (k := 3) (lv' := [(3, .int (iI (l3 + 1))), (2, .int (iI l3)), (0, .ref (ad 0)), (1, .int (iI l1))]) hx hb dX8_nearest_41 hl rfl (by decide) rfl (fun ls hl => ?_)
          refine lv_goto (tgt := 4) hx hb dX8_nearest_44 (by decide) ?_
          exact ih l1 l3 (l3 + 1) y0 hs ls (lv_sub hl [2, 3, 1, 0] rfl) kx
        · refine lv_aload_n hx hb dX8_nearest_24 rfl (lv_at hl 0 rfl) ?_
          refine lv_iload_n hx hb dX8_nearest_25 rfl (lv_at hl 1 rfl) ?_
          refine lv_iload_n hx hb dX8_nearest_26 rfl (lv_at hl 3 rfl) ?_
          obtain ⟨vz2, hcz, hs⟩ := bd1_some hs
          refine k_rV (As := [.int (iI l1), .int (iI l3)]) (rest := []) (st1 := [.int (iI vz2)]) ⟨hx, hb, hml, hown, hts⟩ hK hP (c_X8_misses l D cI cZ cJ hcz) (cwV 2 hts gX8_nearest_X8_misses rfl rfl rfl (by decide +kernel) ⟨Nat.le_of_ble_eq_true rfl, Nat.le_of_ble_eq_true rfl⟩) 0 rfl rfl rfl rfl hl.1 rfl (lv_room (Nat.le_of_ble_eq_true rfl)) dX8_nearest_27 ⟨Nat.zero_le _, Nat.zero_le _⟩ rfl ?_
          refine lv_aload_n hx hb dX8_nearest_30 rfl (lv_at hl 0 rfl) ?_
          refine lv_iload_n hx hb dX8_nearest_31 rfl (lv_at hl 1 rfl) ?_
          refine lv_iload_n hx hb dX8_nearest_32 rfl (lv_at hl 2 rfl) ?_
          obtain ⟨vz3, hcz, hs⟩ := bd1_some hs
          refine k_rV (As := [.int (iI l1), .int (iI l2)]) (rest := [.int (iI vz2)]) (st1 := [.int (iI vz3), .int (iI vz2)]) ⟨hx, hb, hml, hown, hts⟩ hK hP (c_X8_misses l D cI cZ cJ hcz) (cwV 2 hts gX8_nearest_X8_misses rfl rfl rfl (by decide +kernel) ⟨Nat.le_of_ble_eq_true rfl, Nat.le_of_ble_eq_true rfl⟩) 0 rfl rfl rfl rfl hl.1 rfl (lv_room (Nat.le_of_ble_eq_true rfl)) dX8_nearest_33 ⟨Nat.zero_le _, Nat.zero_le _⟩ rfl ?_
          refine k_icmp_ge (tgt := 41) hx hb hs dX8_nearest_36 (by decide) (fun hs => ?_) (fun hs => ?_)
          · refine lv_iload_n hx hb dX8_nearest_39 rfl (lv_at hl 3 rfl) ?_
            refine lv_istore_n (lv' := [(2, .int (iI l3)), (0, .ref (ad 0)), (1, .int (iI l1)), (3, .int (iI l3))]) hx hb dX8_nearest_40 rfl hl (by decide) rfl (fun ls hl => ?_)
            refine k_iinc (x := l3) (k := 3) (lv' := [(3, .int (iI (l3 + 1))), (2, .int (iI l3)), (0, .ref (ad 0)), (1, .int (iI l1))]) hx hb dX8_nearest_41 hl rfl (by decide) rfl (fun ls hl => ?_)
            refine lv_goto (tgt := 4) hx hb dX8_nearest_44 (by decide) ?_
            exact ih l1 l3 (l3 + 1) y0 hs ls (lv_sub hl [2, 3, 1, 0] rfl) kx
          · refine k_iinc (x := l3) (k := 3) (lv' := [(3, .int (iI (l3 + 1))), (0, .ref (ad 0)), (1, .int (iI l1)), (2, .int (iI l2))]) hx hb dX8_nearest_41 hl rfl (by decide) rfl (fun ls hl => ?_)
            refine lv_goto (tgt := 4) hx hb dX8_nearest_44 (by decide) ?_
            exact ih l1 l2 (l3 + 1) y0 hs ls (lv_sub hl [1, 2, 3, 0] rfl) kx
  refine k_iconst (n := (-1)) hx hb dX8_nearest_0 ?_
  refine lv_istore_n (lv' := [(2, .int (iI (-1))), (0, .ref (ad 0)), (1, .int (iI pz1))]) hx hb dX8_nearest_1 rfl hl (by decide) rfl (fun ls hl => ?_)
  refine k_iconst (n := 0) hx hb dX8_nearest_2 ?_
  refine lv_istore_n (lv' := [(3, .int (iI 0)), (2, .int (iI (-1))), (0, .ref (ad 0)), (1, .int (iI pz1))]) hx hb dX8_nearest_3 rfl hl (by decide) rfl (fun ls hl => ?_)
  obtain ⟨ez4, hq, hs⟩ := bd1_some hs
  refine Lz4 FU pz1 (-1) 0 ez4 hq ls (lv_sub hl [2, 3, 1, 0] rfl) ?_
  intro ls hl
  refine lv_iload_n hx hb dX8_nearest_47 rfl (lv_at hl 0 rfl) ?_
  cases hs
  exact k_iret_r hx hb hr hlk rfl dX8_nearest_48 rfl
/-! X8_fewestMismatches -/
noncomputable def s_X8_fewestMismatches (x_thrown : Int) (x_given : Int) (x_isFolding : Int) (x_streamed : Int) (a_length : (Int → Int)) (a_bytes : (Int → Int)) (a_live : (Int → Int)) (a_stream : (Int → Int)) (pz1 : Int) : Option (Int × Int) := bd1 (s_X8_isLiveOne x_given a_live pz1) (fun vz1 => cEq vz1 0 (some ((-2), 0)) (bd1 (s_X8_nearest x_isFolding x_streamed a_length a_bytes a_stream pz1) (fun vz2 => cEq vz2 (-1) (some ((-1), 0)) (bd1 (s_X8_misses x_isFolding a_length a_bytes a_stream pz1 vz2) (fun vz3 => some (vz3, 0))))))
def rm_X8_fewestMismatches : Room := { frames := 5, cells := 0, slots := 0, locals := 115 }
set_option maxHeartbeats 4000000 in
set_option maxRecDepth 100000 in
theorem c_X8_fewestMismatches (l : Launch) (D : va_G) (cI cZ cJ : ClassId) {ad : Nat → Nat} {x_thrown : Int} {x_buffered : Int} {x_given : Int} {x_isFolding : Int} {x_work : Int} {x_rebuilt : Int} {x_streamed : Int} {x_reports : Int} {x_gapFrom : Int} {x_gapSize : Int} {x_elements : Int} {x_wholeSize : Int} {x_isLaid : Int} {x_takenMany : Int} {a_buffer : (Int → Int)} {a_length : (Int → Int)} {a_bytes : (Int → Int)} {a_weight : (Int → Int)} {a_live : (Int → Int)} {a_size : (Int → Int)} {a_list : (Int → Int)} {a_moved : (Int → Int)} {a_planned : (Int → Int)} {a_stream : (Int → Int)} {a_reportedEnd : (Int → Int)} {a_reportedKeyword : (Int → Int)} {a_starts : (Int → Int)} {a_keywordAt : (Int → Int)} {a_element : (Int → Int)} {a_long1 : (Int → Int)} {a_head : (Int → Int)} {a_tail : (Int → Int)} {a_next : (Int → Int)} {a_skip : (Int → Int)} {a_last : (Int → Int)} {a_whole : (Int → Int)} {a_edges : (Int → Int)} {a_covers : (Int → Int)} {a_weighs : (Int → Int)} {a_numbers : (Int → Int)} {a_takes : (Int → Int)} {a_takenAt : (Int → Int)} {pz1 : Int} {r : Int} {y_x_thrown : Int} {sz : Nat} (hs : s_X8_fewestMismatches x_thrown x_given x_isFolding x_streamed a_length a_bytes a_live a_stream pz1 = some (r, y_x_thrown)) : Met l yX8_fewestMismatches wsX8_fewestMismatches rm_X8_fewestMismatches (PW D vwCl [(cI, .int), (cZ, .boolean), (cJ, .long)] [.ref (ad 0), .int (iI pz1)] (wM cI cZ cJ ad x_thrown x_buffered x_given x_isFolding x_work x_rebuilt x_streamed x_reports x_gapFrom x_gapSize x_elements x_wholeSize x_isLaid x_takenMany a_buffer a_length a_bytes a_weight a_live a_size a_list a_moved a_planned a_stream a_reportedEnd a_reportedKeyword a_starts a_keywordAt a_element a_long1 a_head a_tail a_next a_skip a_last a_whole a_edges a_covers a_weighs a_numbers a_takes a_takenAt) sz) (QW D vwCl (some (.int (iI r))) (wM cI cZ cJ ad y_x_thrown x_buffered x_given x_isFolding x_work x_rebuilt x_streamed x_reports x_gapFrom x_gapSize x_elements x_wholeSize x_isLaid x_takenMany a_buffer a_length a_bytes a_weight a_live a_size a_list a_moved a_planned a_stream a_reportedEnd a_reportedKeyword a_starts a_keywordAt a_element a_long1 a_head a_tail a_next a_skip a_last a_whole a_edges a_covers a_weighs a_numbers a_takes a_takenAt) (va_A (wM cI cZ cJ ad x_thrown x_buffered x_given x_isFolding x_work x_rebuilt x_streamed x_reports x_gapFrom x_gapSize x_elements x_wholeSize x_isLaid x_takenMany a_buffer a_length a_bytes a_weight a_live a_size a_list a_moved a_planned a_stream a_reportedEnd a_reportedKeyword a_starts a_keywordAt a_element a_long1 a_head a_tail a_next a_skip a_last a_whole a_edges a_covers a_weighs a_numbers a_takes a_takenAt) sz)) 0 0 (va_A (wM cI cZ cJ ad x_thrown x_buffered x_given x_isFolding x_work x_rebuilt x_streamed x_reports x_gapFrom x_gapSize x_elements x_wholeSize x_isLaid x_takenMany a_buffer a_length a_bytes a_weight a_live a_size a_list a_moved a_planned a_stream a_reportedEnd a_reportedKeyword a_starts a_keywordAt a_element a_long1 a_head a_tail a_next a_skip a_last a_whole a_edges a_covers a_weighs a_numbers a_takes a_takenAt) sz) := by
  refine Met.ofW (cc := cX8_fewestMismatches) (maxL := 3) (ret := (some .int)) (by decide) rfl ?_
  intro p e s m args below meth c s₁ B hml hv
  obtain ⟨hav, hsz, hP, hK, hD0⟩ := hv
  have hx := B.exec
  have hb := B.bytes
  have hr := B.returns
  have hts := atoms_spec (ws := wsX8_fewestMismatches) B.pre
  have hown : s.vm.findClass RX8 = some m.cls := findClass_of_methodNamed B.named
  have hlk := B.notSynchronized
  have hf1 : (Cond.fieldLink RX8 1 "KeywordMatcherModel" "thrown" "I").before args s = true := hts _ (List.mem_of_getElem? (i := 1) rfl)
  have hiX8 : ∀ w ∈ wsX80, w ∈ wsX8_fewestMismatches := fun w h => List.mem_cons_of_mem _ (List.mem_append_right _ h)
  subst hsz
  have hD := hD0.self (sz := s.heap.size)
  generalize hAe : va_A (wM cI cZ cJ ad x_thrown x_buffered x_given x_isFolding x_work x_rebuilt x_streamed x_reports x_gapFrom x_gapSize x_elements x_wholeSize x_isLaid x_takenMany a_buffer a_length a_bytes a_weight a_live a_size a_list a_moved a_planned a_stream a_reportedEnd a_reportedKeyword a_starts a_keywordAt a_element a_long1 a_head a_tail a_next a_skip a_last a_whole a_edges a_covers a_weighs a_numbers a_takes a_takenAt) s.heap.size = Az at hD ⊢
  have hA : ∀ q : Nat, s.heap.size ≤ q → Az q := fun q h => by rw [← hAe]; exact Or.inr h
  clear hAe
  have hSz : va_S Az s.heap s.heap [] := va_S.rf
  obtain ⟨wz, hw1⟩ : ∃ z : va_W, z = (wM cI cZ cJ ad y_x_thrown x_buffered x_given x_isFolding x_work x_rebuilt x_streamed x_reports x_gapFrom x_gapSize x_elements x_wholeSize x_isLaid x_takenMany a_buffer a_length a_bytes a_weight a_live a_size a_list a_moved a_planned a_stream a_reportedEnd a_reportedKeyword a_starts a_keywordAt a_element a_long1 a_head a_tail a_next a_skip a_last a_whole a_edges a_covers a_weighs a_numbers a_takes a_takenAt) := ⟨_, rfl⟩
  rw [← hw1]
  have hl := lv_entry ([.ref (ad 0), .int (iI pz1)]) (n := 3) (Nat.le_of_ble_eq_true rfl)
  rw [show entryFrame m args 3 = entryFrame m ([.ref (ad 0), .int (iI pz1)] : List Value).toArray 3 from by rw [hav], lg_entry_eq]
  generalize (lg_sl ([.ref (ad 0), .int (iI pz1)]) ++ List.replicate (3 - (lg_sl ([.ref (ad 0), .int (iI pz1)])).length) Slot.unset).toArray = ls at hl ⊢
  have hl : lv_has ls 3 [(0, .ref (ad 0)), (1, .int (iI pz1))] := hl
  unfold s_X8_fewestMismatches at hs
  refine (?_ : ∀ (Hz : Heap) (lz : List Loc), va_P D vwCl (wM cI cZ cJ ad x_thrown x_buffered x_given x_isFolding x_work x_rebuilt x_streamed x_reports x_gapFrom x_gapSize x_elements x_wholeSize x_isLaid x_takenMany a_buffer a_length a_bytes a_weight a_live a_size a_list a_moved a_planned a_stream a_reportedEnd a_reportedKeyword a_starts a_keywordAt a_element a_long1 a_head a_tail a_next a_skip a_last a_whole a_edges a_covers a_weighs a_numbers a_takes a_takenAt) Hz → va_D Az (wM cI cZ cJ ad x_thrown x_buffered x_given x_isFolding x_work x_rebuilt x_streamed x_reports x_gapFrom x_gapSize x_elements x_wholeSize x_isLaid x_takenMany a_buffer a_length a_bytes a_weight a_live a_size a_list a_moved a_planned a_stream a_reportedEnd a_reportedKeyword a_starts a_keywordAt a_element a_long1 a_head a_tail a_next a_skip a_last a_whole a_edges a_covers a_weighs a_numbers a_takes a_takenAt) → va_S Az s.heap Hz lz → W p l e (headSpec wsX8_fewestMismatches rm_X8_fewestMismatches).room s m args below meth c Hz lz 0 0 (MQ below (QW D vwCl (some (.int (iI r))) wz Az) args s 0 0 Az) (F0 m 0 ls [])) s.heap [] hP hD hSz
  intro Hz lz hP hD hSz
  refine lv_aload_n hx hb dX8_fewestMismatches_0 rfl (lv_at hl 0 rfl) ?_
  refine k_iconst (n := 0) hx hb dX8_fewestMismatches_1 ?_
  refine va_put (ci := 8) (v := .int (iI 0)) (ty := .int) (C := RX8) (T := TX8) (N := 42) hx hb hts hiX8 tyX8 tyX8_ok nmX8 hown hK hP hD hSz 0 rfl rfl 0 (by decide) hf1 (fun _ h9 => h9) rfl (by decide +kernel) rfl rfl (Nat.le_of_ble_eq_true rfl) dX8_fewestMismatches_2 (fun Hz lz hP hD hSz => ?_)
  have hP : va_P D vwCl (wM cI cZ cJ ad 0 x_buffered x_given x_isFolding x_work x_rebuilt x_streamed x_reports x_gapFrom x_gapSize x_elements x_wholeSize x_isLaid x_takenMany a_buffer a_length a_bytes a_weight a_live a_size a_list a_moved a_planned a_stream a_reportedEnd a_reportedKeyword a_starts a_keywordAt a_element a_long1 a_head a_tail a_next a_skip a_last a_whole a_edges a_covers a_weighs a_numbers a_takes a_takenAt) Hz := hP
  have hD : va_D Az (wM cI cZ cJ ad 0 x_buffered x_given x_isFolding x_work x_rebuilt x_streamed x_reports x_gapFrom x_gapSize x_elements x_wholeSize x_isLaid x_takenMany a_buffer a_length a_bytes a_weight a_live a_size a_list a_moved a_planned a_stream a_reportedEnd a_reportedKeyword a_starts a_keywordAt a_element a_long1 a_head a_tail a_next a_skip a_last a_whole a_edges a_covers a_weighs a_numbers a_takes a_takenAt) := hD
  refine lv_aload_n hx hb dX8_fewestMismatches_5 rfl (lv_at hl 0 rfl) ?_
  refine lv_iload_n hx hb dX8_fewestMismatches_6 rfl (lv_at hl 1 rfl) ?_
  obtain ⟨vz1, hcz, hs⟩ := bd1_some hs
  refine k_rV (As := [.int (iI pz1)]) (rest := []) (st1 := [.int (iI vz1)]) ⟨hx, hb, hml, hown, hts⟩ hK hP (c_X8_isLiveOne l D cI cZ cJ hcz) (cwV 1 hts gX8_fewestMismatches_X8_isLiveOne rfl rfl rfl (by decide +kernel) ⟨Nat.le_of_ble_eq_true rfl, Nat.le_of_ble_eq_true rfl⟩) 0 rfl rfl rfl rfl hl.1 rfl (lv_room (Nat.le_of_ble_eq_true rfl)) dX8_fewestMismatches_7 ⟨Nat.zero_le _, Nat.zero_le _⟩ rfl ?_
  refine k_if_ne (tgt := 16) hx hb hs dX8_fewestMismatches_10 (by decide) (fun hs => ?_) (fun hs => ?_)
  · refine k_bipush (n := (-2)) hx hb (by decide) dX8_fewestMismatches_13 ?_
    cases hs
    exact k_iret_w hx hb hr hlk (by rw [hw1]; exact hP) hSz dX8_fewestMismatches_15 rfl
  · refine lv_aload_n hx hb dX8_fewestMismatches_16 rfl (lv_at hl 0 rfl) ?_
    refine lv_iload_n hx hb dX8_fewestMismatches_17 rfl (lv_at hl 1 rfl) ?_
    obtain ⟨vz2, hcz, hs⟩ := bd1_some hs
    refine k_rV (As := [.int (iI pz1)]) (rest := []) (st1 := [.int (iI vz2)]) ⟨hx, hb, hml, hown, hts⟩ hK hP (c_X8_nearest l D cI cZ cJ hcz) (cwV 1 hts gX8_fewestMismatches_X8_nearest rfl rfl rfl (by decide +kernel) ⟨Nat.le_of_ble_eq_true rfl, Nat.le_of_ble_eq_true rfl⟩) 0 rfl rfl rfl rfl hl.1 rfl (lv_room (Nat.le_of_ble_eq_true rfl)) dX8_fewestMismatches_18 ⟨Nat.zero_le _, Nat.zero_le _⟩ rfl ?_
    refine lv_istore_n (lv' := [(2, .int (iI vz2)), (0, .ref (ad 0)), (1, .int (iI pz1))]) hx hb dX8_fewestMismatches_21 rfl hl (by decide) rfl (fun ls hl => ?_)
    refine lv_iload_n hx hb dX8_fewestMismatches_22 rfl (lv_at hl 0 rfl) ?_
    refine k_iconst (n := (-1)) hx hb dX8_fewestMismatches_23 ?_
    refine k_icmp_ne (tgt := 31) hx hb hs dX8_fewestMismatches_24 (by decide) (fun hs => ?_) (fun hs => ?_)
    · refine k_iconst (n := (-1)) hx hb dX8_fewestMismatches_27 ?_
      refine lv_goto (tgt := 37) hx hb dX8_fewestMismatches_28 (by decide) ?_
      cases hs
      exact k_iret_w hx hb hr hlk (by rw [hw1]; exact hP) hSz dX8_fewestMismatches_37 rfl
    · refine lv_aload_n hx hb dX8_fewestMismatches_31 rfl (lv_at hl 1 rfl) ?_
      refine lv_iload_n hx hb dX8_fewestMismatches_32 rfl (lv_at hl 2 rfl) ?_
      refine lv_iload_n hx hb dX8_fewestMismatches_33 rfl (lv_at hl 0 rfl) ?_
      obtain ⟨vz3, hcz, hs⟩ := bd1_some hs
      refine k_rV (As := [.int (iI pz1), .int (iI vz2)]) (rest := []) (st1 := [.int (iI vz3)]) ⟨hx, hb, hml, hown, hts⟩ hK hP (c_X8_misses l D cI cZ cJ hcz) (cwV 2 hts gX8_fewestMismatches_X8_misses rfl rfl rfl (by decide +kernel) ⟨Nat.le_of_ble_eq_true rfl, Nat.le_of_ble_eq_true rfl⟩) 0 rfl rfl rfl rfl hl.1 rfl (lv_room (Nat.le_of_ble_eq_true rfl)) dX8_fewestMismatches_34 ⟨Nat.zero_le _, Nat.zero_le _⟩ rfl ?_
      cases hs
      exact k_iret_w hx hb hr hlk (by rw [hw1]; exact hP) hSz dX8_fewestMismatches_37 rfl
/-! X8_nearestStart -/
noncomputable def s_X8_nearestStart (x_thrown : Int) (x_given : Int) (x_isFolding : Int) (x_streamed : Int) (a_length : (Int → Int)) (a_bytes : (Int → Int)) (a_live : (Int → Int)) (a_stream : (Int → Int)) (pz1 : Int) : Option (Int × Int) := bd1 (s_X8_isLiveOne x_given a_live pz1) (fun vz1 => cEq vz1 0 (some ((-2), 0)) (bd1 (s_X8_nearest x_isFolding x_streamed a_length a_bytes a_stream pz1) (fun vz2 => some (vz2, 0))))
def rm_X8_nearestStart : Room := { frames := 5, cells := 0, slots := 0, locals := 115 }
set_option maxHeartbeats 4000000 in
set_option maxRecDepth 100000 in
theorem c_X8_nearestStart (l : Launch) (D : va_G) (cI cZ cJ : ClassId) {ad : Nat → Nat} {x_thrown : Int} {x_buffered : Int} {x_given : Int} {x_isFolding : Int} {x_work : Int} {x_rebuilt : Int} {x_streamed : Int} {x_reports : Int} {x_gapFrom : Int} {x_gapSize : Int} {x_elements : Int} {x_wholeSize : Int} {x_isLaid : Int} {x_takenMany : Int} {a_buffer : (Int → Int)} {a_length : (Int → Int)} {a_bytes : (Int → Int)} {a_weight : (Int → Int)} {a_live : (Int → Int)} {a_size : (Int → Int)} {a_list : (Int → Int)} {a_moved : (Int → Int)} {a_planned : (Int → Int)} {a_stream : (Int → Int)} {a_reportedEnd : (Int → Int)} {a_reportedKeyword : (Int → Int)} {a_starts : (Int → Int)} {a_keywordAt : (Int → Int)} {a_element : (Int → Int)} {a_long1 : (Int → Int)} {a_head : (Int → Int)} {a_tail : (Int → Int)} {a_next : (Int → Int)} {a_skip : (Int → Int)} {a_last : (Int → Int)} {a_whole : (Int → Int)} {a_edges : (Int → Int)} {a_covers : (Int → Int)} {a_weighs : (Int → Int)} {a_numbers : (Int → Int)} {a_takes : (Int → Int)} {a_takenAt : (Int → Int)} {pz1 : Int} {r : Int} {y_x_thrown : Int} {sz : Nat} (hs : s_X8_nearestStart x_thrown x_given x_isFolding x_streamed a_length a_bytes a_live a_stream pz1 = some (r, y_x_thrown)) : Met l yX8_nearestStart wsX8_nearestStart rm_X8_nearestStart (PW D vwCl [(cI, .int), (cZ, .boolean), (cJ, .long)] [.ref (ad 0), .int (iI pz1)] (wM cI cZ cJ ad x_thrown x_buffered x_given x_isFolding x_work x_rebuilt x_streamed x_reports x_gapFrom x_gapSize x_elements x_wholeSize x_isLaid x_takenMany a_buffer a_length a_bytes a_weight a_live a_size a_list a_moved a_planned a_stream a_reportedEnd a_reportedKeyword a_starts a_keywordAt a_element a_long1 a_head a_tail a_next a_skip a_last a_whole a_edges a_covers a_weighs a_numbers a_takes a_takenAt) sz) (QW D vwCl (some (.int (iI r))) (wM cI cZ cJ ad y_x_thrown x_buffered x_given x_isFolding x_work x_rebuilt x_streamed x_reports x_gapFrom x_gapSize x_elements x_wholeSize x_isLaid x_takenMany a_buffer a_length a_bytes a_weight a_live a_size a_list a_moved a_planned a_stream a_reportedEnd a_reportedKeyword a_starts a_keywordAt a_element a_long1 a_head a_tail a_next a_skip a_last a_whole a_edges a_covers a_weighs a_numbers a_takes a_takenAt) (va_A (wM cI cZ cJ ad x_thrown x_buffered x_given x_isFolding x_work x_rebuilt x_streamed x_reports x_gapFrom x_gapSize x_elements x_wholeSize x_isLaid x_takenMany a_buffer a_length a_bytes a_weight a_live a_size a_list a_moved a_planned a_stream a_reportedEnd a_reportedKeyword a_starts a_keywordAt a_element a_long1 a_head a_tail a_next a_skip a_last a_whole a_edges a_covers a_weighs a_numbers a_takes a_takenAt) sz)) 0 0 (va_A (wM cI cZ cJ ad x_thrown x_buffered x_given x_isFolding x_work x_rebuilt x_streamed x_reports x_gapFrom x_gapSize x_elements x_wholeSize x_isLaid x_takenMany a_buffer a_length a_bytes a_weight a_live a_size a_list a_moved a_planned a_stream a_reportedEnd a_reportedKeyword a_starts a_keywordAt a_element a_long1 a_head a_tail a_next a_skip a_last a_whole a_edges a_covers a_weighs a_numbers a_takes a_takenAt) sz) := by
  refine Met.ofW (cc := cX8_nearestStart) (maxL := 2) (ret := (some .int)) (by decide) rfl ?_
  intro p e s m args below meth c s₁ B hml hv
  obtain ⟨hav, hsz, hP, hK, hD0⟩ := hv
  have hx := B.exec
  have hb := B.bytes
  have hr := B.returns
  have hts := atoms_spec (ws := wsX8_nearestStart) B.pre
  have hown : s.vm.findClass RX8 = some m.cls := findClass_of_methodNamed B.named
  have hlk := B.notSynchronized
  have hf1 : (Cond.fieldLink RX8 1 "KeywordMatcherModel" "thrown" "I").before args s = true := hts _ (List.mem_of_getElem? (i := 1) rfl)
  have hiX8 : ∀ w ∈ wsX80, w ∈ wsX8_nearestStart := fun w h => List.mem_cons_of_mem _ (List.mem_append_right _ h)
  subst hsz
  have hD := hD0.self (sz := s.heap.size)
  generalize hAe : va_A (wM cI cZ cJ ad x_thrown x_buffered x_given x_isFolding x_work x_rebuilt x_streamed x_reports x_gapFrom x_gapSize x_elements x_wholeSize x_isLaid x_takenMany a_buffer a_length a_bytes a_weight a_live a_size a_list a_moved a_planned a_stream a_reportedEnd a_reportedKeyword a_starts a_keywordAt a_element a_long1 a_head a_tail a_next a_skip a_last a_whole a_edges a_covers a_weighs a_numbers a_takes a_takenAt) s.heap.size = Az at hD ⊢
  have hA : ∀ q : Nat, s.heap.size ≤ q → Az q := fun q h => by rw [← hAe]; exact Or.inr h
  clear hAe
  have hSz : va_S Az s.heap s.heap [] := va_S.rf
  obtain ⟨wz, hw1⟩ : ∃ z : va_W, z = (wM cI cZ cJ ad y_x_thrown x_buffered x_given x_isFolding x_work x_rebuilt x_streamed x_reports x_gapFrom x_gapSize x_elements x_wholeSize x_isLaid x_takenMany a_buffer a_length a_bytes a_weight a_live a_size a_list a_moved a_planned a_stream a_reportedEnd a_reportedKeyword a_starts a_keywordAt a_element a_long1 a_head a_tail a_next a_skip a_last a_whole a_edges a_covers a_weighs a_numbers a_takes a_takenAt) := ⟨_, rfl⟩
  rw [← hw1]
  have hl := lv_entry ([.ref (ad 0), .int (iI pz1)]) (n := 2) (Nat.le_of_ble_eq_true rfl)
  rw [show entryFrame m args 2 = entryFrame m ([.ref (ad 0), .int (iI pz1)] : List Value).toArray 2 from by rw [hav], lg_entry_eq]
  generalize (lg_sl ([.ref (ad 0), .int (iI pz1)]) ++ List.replicate (2 - (lg_sl ([.ref (ad 0), .int (iI pz1)])).length) Slot.unset).toArray = ls at hl ⊢
  have hl : lv_has ls 2 [(0, .ref (ad 0)), (1, .int (iI pz1))] := hl
  unfold s_X8_nearestStart at hs
  refine (?_ : ∀ (Hz : Heap) (lz : List Loc), va_P D vwCl (wM cI cZ cJ ad x_thrown x_buffered x_given x_isFolding x_work x_rebuilt x_streamed x_reports x_gapFrom x_gapSize x_elements x_wholeSize x_isLaid x_takenMany a_buffer a_length a_bytes a_weight a_live a_size a_list a_moved a_planned a_stream a_reportedEnd a_reportedKeyword a_starts a_keywordAt a_element a_long1 a_head a_tail a_next a_skip a_last a_whole a_edges a_covers a_weighs a_numbers a_takes a_takenAt) Hz → va_D Az (wM cI cZ cJ ad x_thrown x_buffered x_given x_isFolding x_work x_rebuilt x_streamed x_reports x_gapFrom x_gapSize x_elements x_wholeSize x_isLaid x_takenMany a_buffer a_length a_bytes a_weight a_live a_size a_list a_moved a_planned a_stream a_reportedEnd a_reportedKeyword a_starts a_keywordAt a_element a_long1 a_head a_tail a_next a_skip a_last a_whole a_edges a_covers a_weighs a_numbers a_takes a_takenAt) → va_S Az s.heap Hz lz → W p l e (headSpec wsX8_nearestStart rm_X8_nearestStart).room s m args below meth c Hz lz 0 0 (MQ below (QW D vwCl (some (.int (iI r))) wz Az) args s 0 0 Az) (F0 m 0 ls [])) s.heap [] hP hD hSz
  intro Hz lz hP hD hSz
  refine lv_aload_n hx hb dX8_nearestStart_0 rfl (lv_at hl 0 rfl) ?_
  refine k_iconst (n := 0) hx hb dX8_nearestStart_1 ?_
  refine va_put (ci := 8) (v := .int (iI 0)) (ty := .int) (C := RX8) (T := TX8) (N := 42) hx hb hts hiX8 tyX8 tyX8_ok nmX8 hown hK hP hD hSz 0 rfl rfl 0 (by decide) hf1 (fun _ h9 => h9) rfl (by decide +kernel) rfl rfl (Nat.le_of_ble_eq_true rfl) dX8_nearestStart_2 (fun Hz lz hP hD hSz => ?_)
  have hP : va_P D vwCl (wM cI cZ cJ ad 0 x_buffered x_given x_isFolding x_work x_rebuilt x_streamed x_reports x_gapFrom x_gapSize x_elements x_wholeSize x_isLaid x_takenMany a_buffer a_length a_bytes a_weight a_live a_size a_list a_moved a_planned a_stream a_reportedEnd a_reportedKeyword a_starts a_keywordAt a_element a_long1 a_head a_tail a_next a_skip a_last a_whole a_edges a_covers a_weighs a_numbers a_takes a_takenAt) Hz := hP
  have hD : va_D Az (wM cI cZ cJ ad 0 x_buffered x_given x_isFolding x_work x_rebuilt x_streamed x_reports x_gapFrom x_gapSize x_elements x_wholeSize x_isLaid x_takenMany a_buffer a_length a_bytes a_weight a_live a_size a_list a_moved a_planned a_stream a_reportedEnd a_reportedKeyword a_starts a_keywordAt a_element a_long1 a_head a_tail a_next a_skip a_last a_whole a_edges a_covers a_weighs a_numbers a_takes a_takenAt) := hD
  refine lv_aload_n hx hb dX8_nearestStart_5 rfl (lv_at hl 0 rfl) ?_
  refine lv_iload_n hx hb dX8_nearestStart_6 rfl (lv_at hl 1 rfl) ?_
  obtain ⟨vz1, hcz, hs⟩ := bd1_some hs
  refine k_rV (As := [.int (iI pz1)]) (rest := []) (st1 := [.int (iI vz1)]) ⟨hx, hb, hml, hown, hts⟩ hK hP (c_X8_isLiveOne l D cI cZ cJ hcz) (cwV 1 hts gX8_nearestStart_X8_isLiveOne rfl rfl rfl (by decide +kernel) ⟨Nat.le_of_ble_eq_true rfl, Nat.le_of_ble_eq_true rfl⟩) 0 rfl rfl rfl rfl hl.1 rfl (lv_room (Nat.le_of_ble_eq_true rfl)) dX8_nearestStart_7 ⟨Nat.zero_le _, Nat.zero_le _⟩ rfl ?_
  refine k_if_eq (tgt := 21) hx hb hs dX8_nearestStart_10 (by decide) (fun hs => ?_) (fun hs => ?_)
  · refine k_bipush (n := (-2)) hx hb (by decide) dX8_nearestStart_21 ?_
    cases hs
    exact k_iret_w hx hb hr hlk (by rw [hw1]; exact hP) hSz dX8_nearestStart_23 rfl
  · refine lv_aload_n hx hb dX8_nearestStart_13 rfl (lv_at hl 0 rfl) ?_
    refine lv_iload_n hx hb dX8_nearestStart_14 rfl (lv_at hl 1 rfl) ?_
    obtain ⟨vz2, hcz, hs⟩ := bd1_some hs
    refine k_rV (As := [.int (iI pz1)]) (rest := []) (st1 := [.int (iI vz2)]) ⟨hx, hb, hml, hown, hts⟩ hK hP (c_X8_nearest l D cI cZ cJ hcz) (cwV 1 hts gX8_nearestStart_X8_nearest rfl rfl rfl (by decide +kernel) ⟨Nat.le_of_ble_eq_true rfl, Nat.le_of_ble_eq_true rfl⟩) 0 rfl rfl rfl rfl hl.1 rfl (lv_room (Nat.le_of_ble_eq_true rfl)) dX8_nearestStart_15 ⟨Nat.zero_le _, Nat.zero_le _⟩ rfl ?_
    refine lv_goto (tgt := 23) hx hb dX8_nearestStart_18 (by decide) ?_
    cases hs
    exact k_iret_w hx hb hr hlk (by rw [hw1]; exact hP) hSz dX8_nearestStart_23 rfl
