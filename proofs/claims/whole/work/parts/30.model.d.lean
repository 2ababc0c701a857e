/-! X8_plannedWork -/
noncomputable def s_X8_plannedWork_22 (fu : Nat) : (Int → Int) → (Int → Int) → Int → Int → Option ((Int → Int)) := Nat.rec (motive := fun _ => (Int → Int) → (Int → Int) → Int → Int → Option ((Int → Int))) (fun _ _ _ _ => none) (fun _ ih a_size a_planned l1 l2 => cLt l2 7 ((rdA a_size 14 l2).bind (fun vz2 => cN 8 l2 (ih a_size (upA a_planned l2 vz2) l1 (l2 + 1)))) (some a_planned)) fu
theorem s_X8_plannedWork_22_s (fu : Nat) (a_size : (Int → Int)) (a_planned : (Int → Int)) (l1 : Int) (l2 : Int) : s_X8_plannedWork_22 (fu + 1) a_size a_planned l1 l2 = (cLt l2 7 ((rdA a_size 14 l2).bind (fun vz2 => cN 8 l2 (s_X8_plannedWork_22 fu a_size (upA a_planned l2 vz2) l1 (l2 + 1)))) (some a_planned)) := rfl
theorem s_X8_plannedWork_22_z (a_size : (Int → Int)) (a_planned : (Int → Int)) (l1 : Int) (l2 : Int) : s_X8_plannedWork_22 0 a_size a_planned l1 l2 = none := rfl
noncomputable def s_X8_plannedWork_61 (fu : Nat) : (Int → Int) → Int → Int → Int → Int → Int → Option ((Int → Int) × Int × Int) := Nat.rec (motive := fun _ => (Int → Int) → Int → Int → Int → Int → Int → Option ((Int → Int) × Int × Int)) (fun _ _ _ _ _ _ => none) (fun _ ih a_planned l1 l2 l3 l4 l5 => (rdA a_planned 8 l5).bind (fun vz4 => cLt 0 vz4 ((rdA a_planned 8 l5).bind (fun vz5 => cN 8 l5 (ih (upA a_planned l5 0) l1 l2 l3 (l4 + vz5) (l5 + 1)))) (some (a_planned, l4, l5)))) fu
theorem s_X8_plannedWork_61_s (fu : Nat) (a_planned : (Int → Int)) (l1 : Int) (l2 : Int) (l3 : Int) (l4 : Int) (l5 : Int) : s_X8_plannedWork_61 (fu + 1) a_planned l1 l2 l3 l4 l5 = ((rdA a_planned 8 l5).bind (fun vz4 => cLt 0 vz4 ((rdA a_planned 8 l5).bind (fun vz5 => cN 8 l5 (s_X8_plannedWork_61 fu (upA a_planned l5 0) l1 l2 l3 (l4 + vz5) (l5 + 1)))) (some (a_planned, l4, l5)))) := rfl
theorem s_X8_plannedWork_61_z (a_planned : (Int → Int)) (l1 : Int) (l2 : Int) (l3 : Int) (l4 : Int) (l5 : Int) : s_X8_plannedWork_61 0 a_planned l1 l2 l3 l4 l5 = none := rfl
noncomputable def s_X8_plannedWork_50 (fu : Nat) : (Int → Int) → Int → Int → Int → Option ((Int → Int) × Int) := Nat.rec (motive := fun _ => (Int → Int) → Int → Int → Int → Option ((Int → Int) × Int)) (fun _ _ _ _ => none) (fun _ ih a_planned l1 l2 l3 => cLt l3 l1 (bd3 (s_X8_plannedWork_61 FU a_planned l1 l2 l3 1 0) (fun ez6 ez7 ez8 => cN 8 ez8 (ih (upA ez6 ez8 ez7) l1 (l2 + ez7) (l3 + 1)))) (some (a_planned, l2))) fu
theorem s_X8_plannedWork_50_s (fu : Nat) (a_planned : (Int → Int)) (l1 : Int) (l2 : Int) (l3 : Int) : s_X8_plannedWork_50 (fu + 1) a_planned l1 l2 l3 = (cLt l3 l1 (bd3 (s_X8_plannedWork_61 FU a_planned l1 l2 l3 1 0) (fun ez6 ez7 ez8 => cN 8 ez8 (s_X8_plannedWork_50 fu (upA ez6 ez8 ez7) l1 (l2 + ez7) (l3 + 1)))) (some (a_planned, l2))) := rfl
theorem s_X8_plannedWork_50_z (a_planned : (Int → Int)) (l1 : Int) (l2 : Int) (l3 : Int) : s_X8_plannedWork_50 0 a_planned l1 l2 l3 = none := rfl
noncomputable def s_X8_plannedWork (x_thrown : Int) (a_size : (Int → Int)) (a_planned : (Int → Int)) (pz1 : Int) : Option (Int × Int × (Int → Int)) := cR pz1 (bd1 (s_X8_isIn pz1 0 40) (fun vz1 => cEq vz1 0 (some ((-3), 0, a_planned)) (bd1 (s_X8_plannedWork_22 FU a_size a_planned pz1 0) (fun ez3 => bd2 (s_X8_plannedWork_50 FU ez3 pz1 0 0) (fun ez9 ez10 => some (ez10, 0, ez9))))))
def rm_X8_plannedWork : Room := { frames := 1, cells := 0, slots := 0, locals := 25 }
set_option maxHeartbeats 4000000 in
set_option maxRecDepth 100000 in
theorem c_X8_plannedWork (l : Launch) (D : va_G) (cI cZ cJ : ClassId) {ad : Nat → Nat} {x_thrown : Int} {x_buffered : Int} {x_given : Int} {x_isFolding : Int} {x_work : Int} {x_rebuilt : Int} {x_streamed : Int} {x_reports : Int} {x_gapFrom : Int} {x_gapSize : Int} {x_elements : Int} {x_wholeSize : Int} {x_isLaid : Int} {x_takenMany : Int} {a_buffer : (Int → Int)} {a_length : (Int → Int)} {a_bytes : (Int → Int)} {a_weight : (Int → Int)} {a_live : (Int → Int)} {a_size : (Int → Int)} {a_list : (Int → Int)} {a_moved : (Int → Int)} {a_planned : (Int → Int)} {a_stream : (Int → Int)} {a_reportedEnd : (Int → Int)} {a_reportedKeyword : (Int → Int)} {a_starts : (Int → Int)} {a_keywordAt : (Int → Int)} {a_element : (Int → Int)} {a_long1 : (Int → Int)} {a_head : (Int → Int)} {a_tail : (Int → Int)} {a_next : (Int → Int)} {a_skip : (Int → Int)} {a_last : (Int → Int)} {a_whole : (Int → Int)} {a_edges : (Int → Int)} {a_covers : (Int → Int)} {a_weighs : (Int → Int)} {a_numbers : (Int → Int)} {a_takes : (Int → Int)} {a_takenAt : (Int → Int)} {pz1 : Int} {r : Int} {y_x_thrown : Int} {y_a_planned : (Int → Int)} {sz : Nat} (hs : s_X8_plannedWork x_thrown a_size a_planned pz1 = some (r, y_x_thrown, y_a_planned)) : Met l yX8_plannedWork wsX8_plannedWork rm_X8_plannedWork (PW D vwCl [(cI, .int), (cZ, .boolean), (cJ, .long)] [.ref (ad 0), .int (iI pz1)] (wM cI cZ cJ ad x_thrown x_buffered x_given x_isFolding x_work x_rebuilt x_streamed x_reports x_gapFrom x_gapSize x_elements x_wholeSize x_isLaid x_takenMany a_buffer a_length a_bytes a_weight a_live a_size a_list a_moved a_planned a_stream a_reportedEnd a_reportedKeyword a_starts a_keywordAt a_element a_long1 a_head a_tail a_next a_skip a_last a_whole a_edges a_covers a_weighs a_numbers a_takes a_takenAt) sz) (QW D vwCl (some (.int (iI r))) (wM cI cZ cJ ad y_x_thrown x_buffered x_given x_isFolding x_work x_rebuilt x_streamed x_reports x_gapFrom x_gapSize x_elements x_wholeSize x_isLaid x_takenMany a_buffer a_length a_bytes a_weight a_live a_size a_list a_moved y_a_planned a_stream a_reportedEnd a_reportedKeyword a_starts a_keywordAt a_element a_long1 a_head a_tail a_next a_skip a_last a_whole a_edges a_covers a_weighs a_numbers a_takes a_takenAt) (va_A (wM cI cZ cJ ad x_thrown x_buffered x_given x_isFolding x_work x_rebuilt x_streamed x_reports x_gapFrom x_gapSize x_elements x_wholeSize x_isLaid x_takenMany a_buffer a_length a_bytes a_weight a_live a_size a_list a_moved a_planned a_stream a_reportedEnd a_reportedKeyword a_starts a_keywordAt a_element a_long1 a_head a_tail a_next a_skip a_last a_whole a_edges a_covers a_weighs a_numbers a_takes a_takenAt) sz)) 0 0 (va_A (wM cI cZ cJ ad x_thrown x_buffered x_given x_isFolding x_work x_rebuilt x_streamed x_reports x_gapFrom x_gapSize x_elements x_wholeSize x_isLaid x_takenMany a_buffer a_length a_bytes a_weight a_live a_size a_list a_moved a_planned a_stream a_reportedEnd a_reportedKeyword a_starts a_keywordAt a_element a_long1 a_head a_tail a_next a_skip a_last a_whole a_edges a_covers a_weighs a_numbers a_takes a_takenAt) sz) := by
  refine Met.ofW (cc := cX8_plannedWork) (maxL := 6) (ret := (some .int)) (by decide) rfl ?_
  intro p e s m args below meth c s₁ B hml hv
  obtain ⟨hav, hsz, hP, hK, hD0⟩ := hv
  have hx := B.exec
  have hb := B.bytes
  have hr := B.returns
  have hts := atoms_spec (ws := wsX8_plannedWork) B.pre
  have hown : s.vm.findClass RX8 = some m.cls := findClass_of_methodNamed B.named
  have hlk := B.notSynchronized
  have hf1 : (Cond.fieldLink RX8 1 "KeywordMatcherModel" "thrown" "I").before args s = true := hts _ (List.mem_of_getElem? (i := 1) rfl)
  have hiX8 : ∀ w ∈ wsX80, w ∈ wsX8_plannedWork := fun w h => List.mem_cons_of_mem _ (List.mem_append_right _ h)
  have hc198 : (Cond.constantLong RX8 198 (40)).before args s = true := hts _ (List.mem_of_getElem? (i := 2) rfl)
  have hf39 : (Cond.fieldLink RX8 39 "KeywordMatcherModel" "planned" "[I").before args s = true := hts _ (List.mem_of_getElem? (i := 3) rfl)
  have hf30 : (Cond.fieldLink RX8 30 "KeywordMatcherModel" "size" "[I").before args s = true := hts _ (List.mem_of_getElem? (i := 4) rfl)
  subst hsz
  have hD := hD0.self (sz := s.heap.size)
  generalize hAe : va_A (wM cI cZ cJ ad x_thrown x_buffered x_given x_isFolding x_work x_rebuilt x_streamed x_reports x_gapFrom x_gapSize x_elements x_wholeSize x_isLaid x_takenMany a_buffer a_length a_bytes a_weight a_live a_size a_list a_moved a_planned a_stream a_reportedEnd a_reportedKeyword a_starts a_keywordAt a_element a_long1 a_head a_tail a_next a_skip a_last a_whole a_edges a_covers a_weighs a_numbers a_takes a_takenAt) s.heap.size = Az at hD ⊢
  have hA : ∀ q : Nat, s.heap.size ≤ q → Az q := fun q h => by rw [← hAe]; exact Or.inr h
  clear hAe
  have hSz : va_S Az s.heap s.heap [] := va_S.rf
  obtain ⟨wz, hw1⟩ : ∃ z : va_W, z = (wM cI cZ cJ ad y_x_thrown x_buffered x_given x_isFolding x_work x_rebuilt x_streamed x_reports x_gapFrom x_gapSize x_elements x_wholeSize x_isLaid x_takenMany a_buffer a_length a_bytes a_weight a_live a_size a_list a_moved y_a_planned a_stream a_reportedEnd a_reportedKeyword a_starts a_keywordAt a_element a_long1 a_head a_tail a_next a_skip a_last a_whole a_edges a_covers a_weighs a_numbers a_takes a_takenAt) := ⟨_, rfl⟩
  rw [← hw1]
  have hl := lv_entry ([.ref (ad 0), .int (iI pz1)]) (n := 6) (Nat.le_of_ble_eq_true rfl)
  rw [show entryFrame m args 6 = entryFrame m ([.ref (ad 0), .int (iI pz1)] : List Value).toArray 6 from by rw [hav], lg_entry_eq]
  generalize (lg_sl ([.ref (ad 0), .int (iI pz1)]) ++ List.replicate (6 - (lg_sl ([.ref (ad 0), .int (iI pz1)])).length) Slot.unset).toArray = ls at hl ⊢
  have hl : lv_has ls 6 [(0, .ref (ad 0)), (1, .int (iI pz1))] := hl
  unfold s_X8_plannedWork at hs
  have Lz22 : ∀ (fu : Nat) (x_thrown : Int) (a_planned : (Int → Int)) (l1 : Int) (l2 : Int) (y0 : (Int → Int)), s_X8_plannedWork_22 fu a_size a_planned l1 l2 = some y0 → ∀ (Hz : Heap) (lz : List Loc), va_P D vwCl (wM cI cZ cJ ad x_thrown x_buffered x_given x_isFolding x_work x_rebuilt x_streamed x_reports x_gapFrom x_gapSize x_elements x_wholeSize x_isLaid x_takenMany a_buffer a_length a_bytes a_weight a_live a_size a_list a_moved a_planned a_stream a_reportedEnd a_reportedKeyword a_starts a_keywordAt a_element a_long1 a_head a_tail a_next a_skip a_last a_whole a_edges a_covers a_weighs a_numbers a_takes a_takenAt) Hz → va_D Az (wM cI cZ cJ ad x_thrown x_buffered x_given x_isFolding x_work x_rebuilt x_streamed x_reports x_gapFrom x_gapSize x_elements x_wholeSize x_isLaid x_takenMany a_buffer a_length a_bytes a_weight a_live a_size a_list a_moved a_planned a_stream a_reportedEnd a_reportedKeyword a_starts a_keywordAt a_element a_long1 a_head a_tail a_next a_skip a_last a_whole a_edges a_covers a_weighs a_numbers a_takes a_takenAt) → va_S Az s.heap Hz lz → ∀ ls : Array Slot, lv_has ls 6 [(0, .ref (ad 0)), (1, .int (iI l1)), (2, .int (iI l2))] → (∀ (Hz : Heap) (lz : List Loc), va_P D vwCl (wM cI cZ cJ ad x_thrown x_buffered x_given x_isFolding x_work x_rebuilt x_streamed x_reports x_gapFrom x_gapSize x_elements x_wholeSize x_isLaid x_takenMany a_buffer a_length a_bytes a_weight a_live a_size a_list a_moved y0 a_stream a_reportedEnd a_reportedKeyword a_starts a_keywordAt a_element a_long1 a_head a_tail a_next a_skip a_last a_whole a_edges a_covers a_weighs a_numbers a_takes a_takenAt) Hz → va_D Az (wM cI cZ cJ ad x_thrown x_buffered x_given x_isFolding x_work x_rebuilt x_streamed x_reports x_gapFrom x_gapSize x_elements x_wholeSize x_isLaid x_takenMany a_buffer a_length a_bytes a_weight a_live a_size a_list a_moved y0 a_stream a_reportedEnd a_reportedKeyword a_starts a_keywordAt a_element a_long1 a_head a_tail a_next a_skip a_last a_whole a_edges a_covers a_weighs a_numbers a_takes a_takenAt) → va_S Az s.heap Hz lz → ∀ ls : Array Slot, lv_has ls 6 [(0, .ref (ad 0)), (1, .int (iI l1))] → W p l e (headSpec wsX8_plannedWork rm_X8_plannedWork).room s m args below meth c Hz lz 0 0 (MQ below (QW D vwCl (some (.int (iI r))) wz Az) args s 0 0 Az) (F0 m 46 ls [])) → W p l e (headSpec wsX8_plannedWork rm_X8_plannedWork).room s m args below meth c Hz lz 0 0 (MQ below (QW D vwCl (some (.int (iI r))) wz Az) args s 0 0 Az) (F0 m 22 ls []) := by
    intro fu
    induction fu with
    | zero => intro x_thrown a_planned l1 l2 y0 hs; cases hs
    | succ fu ih =>
      intro x_thrown a_planned l1 l2 y0 hs Hz lz hP hD hSz ls hl kx
      rw [s_X8_plannedWork_22_s] at hs
      refine lv_iload_n hx hb dX8_plannedWork_22 rfl (lv_at hl 2 rfl) ?_
      refine k_bipush (n := 7) hx hb (by decide) dX8_plannedWork_23 ?_
      refine k_icmp_ge (tgt := 46) hx hb hs dX8_plannedWork_25 (by decide) (fun hs => ?_) (fun hs => ?_)
      · refine lv_aload_n hx hb dX8_plannedWork_28 rfl (lv_at hl 0 rfl) ?_
        refine va_get (ci := 8) (v := .ref (ad 9)) (C := RX8) (T := TX8) (N := 42) hx hb hts hiX8 hown hK hP 0 rfl rfl 14 (by decide) hf39 (fun _ h9 => h9) rfl dX8_plannedWork_29 ?_
        refine lv_iload_n hx hb dX8_plannedWork_32 rfl (lv_at hl 2 rfl) ?_
        refine lv_aload_n hx hb dX8_plannedWork_33 rfl (lv_at hl 0 rfl) ?_
        refine va_get (ci := 8) (v := .ref (ad 6)) (C := RX8) (T := TX8) (N := 42) hx hb hts hiX8 hown hK hP 0 rfl rfl 9 (by decide) hf30 (fun _ h9 => h9) rfl dX8_plannedWork_34 ?_
        refine lv_iload_n hx hb dX8_plannedWork_37 rfl (lv_at hl 2 rfl) ?_
        refine k_iald hx hb hK hP 6 0 rfl rfl (Nat.le_of_ble_eq_true rfl) hs dX8_plannedWork_38 (fun vz2 hs => ?_)
        refine k_iast hx hb hK hP hD hSz 9 0 rfl rfl (Nat.le_of_ble_eq_true rfl) hs dX8_plannedWork_39 (fun Hz lz hP hD hSz hs => ?_)
        have hP : va_P D vwCl (wM cI cZ cJ ad x_thrown x_buffered x_given x_isFolding x_work x_rebuilt x_streamed x_reports x_gapFrom x_gapSize x_elements x_wholeSize x_isLaid x_takenMany a_buffer a_length a_bytes a_weight a_live a_size a_list a_moved (upA a_planned l2 vz2) a_stream a_reportedEnd a_reportedKeyword a_starts a_keywordAt a_element a_long1 a_head a_tail a_next a_skip a_last a_whole a_edges a_covers a_weighs a_numbers a_takes a_takenAt) Hz := hP
        have hD : va_D Az (wM cI cZ cJ ad x_thrown x_buffered x_given x_isFolding x_work x_rebuilt x_streamed x_reports x_gapFrom x_gapSize x_elements x_wholeSize x_isLaid x_takenMany a_buffer a_length a_bytes a_weight a_live a_size a_list a_moved (upA a_planned l2 vz2) a_stream a_reportedEnd a_reportedKeyword a_starts a_keywordAt a_element a_long1 a_head a_tail a_next a_skip a_last a_whole a_edges a_covers a_weighs a_numbers a_takes a_takenAt) := hD
        refine k_iinc (x := l2) (k := 2) (lv' := [(2, .int (iI (l2 + 1))), (0, .ref (ad 0)), (1, .int (iI l1))]) hx hb dX8_plannedWork_40 hl rfl (by decide) rfl (fun ls hl => ?_)
        refine lv_goto (tgt := 22) hx hb dX8_plannedWork_43 (by decide) ?_
        exact ih x_thrown (upA a_planned l2 vz2) l1 (l2 + 1) y0 hs Hz lz hP hD hSz ls (lv_sub hl [1, 2, 0] rfl) kx
      · cases hs
        exact kx Hz lz hP hD hSz ls (lv_sub hl [0, 1] rfl)
  have Lz61 : ∀ (fu : Nat) (x_thrown : Int) (a_planned : (Int → Int)) (l1 : Int) (l2 : Int) (l3 : Int) (l4 : Int) (l5 : Int) (y0 : (Int → Int)) (y1 : Int) (y2 : Int), s_X8_plannedWork_61 fu a_planned l1 l2 l3 l4 l5 = some (y0, y1, y2) → ∀ (Hz : Heap) (lz : List Loc), va_P D vwCl (wM cI cZ cJ ad x_thrown x_buffered x_given x_isFolding x_work x_rebuilt x_streamed x_reports x_gapFrom x_gapSize x_elements x_wholeSize x_isLaid x_takenMany a_buffer a_length a_bytes a_weight a_live a_size a_list a_moved a_planned a_stream a_reportedEnd a_reportedKeyword a_starts a_keywordAt a_element a_long1 a_head a_tail a_next a_skip a_last a_whole a_edges a_covers a_weighs a_numbers a_takes a_takenAt) Hz → va_D Az (wM cI cZ cJ ad x_thrown x_buffered x_given x_isFolding x_work x_rebuilt x_streamed x_reports x_gapFrom x_gapSize x_elements x_wholeSize x_isLaid x_takenMany a_buffer a_length a_bytes a_weight a_live a_size a_list a_moved a_planned a_stream a_reportedEnd a_reportedKeyword a_starts a_keywordAt a_element a_long1 a_head a_tail a_next a_skip a_last a_whole a_edges a_covers a_weighs a_numbers a_takes a_takenAt) → va_S Az s.heap Hz lz → ∀ ls : Array Slot, lv_has ls 6 [(0, .ref (ad 0)), (1, .int (iI l1)), (2, .int (iI l2)), (3, .int (iI l3)), (4, .int (iI l4)), (5, .int (iI l5))] → (∀ (Hz : Heap) (lz : List Loc), va_P D vwCl (wM cI cZ cJ ad x_thrown x_buffered x_given x_isFolding x_work x_rebuilt x_streamed x_reports x_gapFrom x_gapSize x_elements x_wholeSize x_isLaid x_takenMany a_buffer a_length a_bytes a_weight a_live a_size a_list a_moved y0 a_stream a_reportedEnd a_reportedKeyword a_starts a_keywordAt a_element a_long1 a_head a_tail a_next a_skip a_last a_whole a_edges a_covers a_weighs a_numbers a_takes a_takenAt) Hz → va_D Az (wM cI cZ cJ ad x_thrown x_buffered x_given x_isFolding x_work x_rebuilt x_streamed x_reports x_gapFrom x_gapSize x_elements x_wholeSize x_isLaid x_takenMany a_buffer a_length a_bytes a_weight a_live a_size a_list a_moved y0 a_stream a_reportedEnd a_reportedKeyword a_starts a_keywordAt a_element a_long1 a_head a_tail a_next a_skip a_last a_whole a_edges a_covers a_weighs a_numbers a_takes a_takenAt) → va_S Az s.heap Hz lz → ∀ ls : Array Slot, lv_has ls 6 [(0, .ref (ad 0)), (1, .int (iI l1)), (2, .int (iI l2)), (3, .int (iI l3)), (4, .int (iI y1)), (5, .int (iI y2))] → W p l e (headSpec wsX8_plannedWork rm_X8_plannedWork).room s m args below meth c Hz lz 0 0 (MQ below (QW D vwCl (some (.int (iI r))) wz Az) args s 0 0 Az) (F0 m 97 ls [])) → W p l e (headSpec wsX8_plannedWork rm_X8_plannedWork).room s m args below meth c Hz lz 0 0 (MQ below (QW D vwCl (some (.int (iI r))) wz Az) args s 0 0 Az) (F0 m 61 ls []) := by
    intro fu
    induction fu with
    | zero => intro x_thrown a_planned l1 l2 l3 l4 l5 y0 y1 y2 hs; cases hs
    | succ fu ih =>
      intro x_thrown a_planned l1 l2 l3 l4 l5 y0 y1 y2 hs Hz lz hP hD hSz ls hl kx
      rw [s_X8_plannedWork_61_s] at hs
      refine lv_aload_n hx hb dX8_plannedWork_61 rfl (lv_at hl 0 rfl) ?_
      refine va_get (ci := 8) (v := .ref (ad 9)) (C := RX8) (T := TX8) (N := 42) hx hb hts hiX8 hown hK hP 0 rfl rfl 14 (by decide) hf39 (fun _ h9 => h9) rfl dX8_plannedWork_62 ?_
      refine lv_iload hx hb dX8_plannedWork_65 (lv_at hl 5 rfl) ?_
      refine k_iald hx hb hK hP 9 0 rfl rfl (Nat.le_of_ble_eq_true rfl) hs dX8_plannedWork_67 (fun vz4 hs => ?_)
      refine k_if_le (tgt := 97) hx hb hs dX8_plannedWork_68 (by decide) (fun hs => ?_) (fun hs => ?_)
      · refine lv_iload hx hb dX8_plannedWork_71 (lv_at hl 4 rfl) ?_
        refine lv_aload_n hx hb dX8_plannedWork_73 rfl (lv_at hl 0 rfl) ?_
        refine va_get (ci := 8) (v := .ref (ad 9)) (C := RX8) (T := TX8) (N := 42) hx hb hts hiX8 hown hK hP 0 rfl rfl 14 (by decide) hf39 (fun _ h9 => h9) rfl dX8_plannedWork_74 ?_
        refine lv_iload hx hb dX8_plannedWork_77 (lv_at hl 5 rfl) ?_
        refine k_iald hx hb hK hP 9 0 rfl rfl (Nat.le_of_ble_eq_true rfl) hs dX8_plannedWork_79 (fun vz5 hs => ?_)
        refine k_iadd hx hb dX8_plannedWork_80 ?_
        refine lv_istore (lv' := [(4, .int (iI (l4 + vz5))), (0, .ref (ad 0)), (1, .int (iI l1)), (2, .int (iI l2)), (3, .int (iI l3)), (5, .int (iI l5))]) hx hb dX8_plannedWork_81 hl (by decide) rfl (fun ls hl => ?_)
        refine lv_aload_n hx hb dX8_plannedWork_83 rfl (lv_at hl 1 rfl) ?_
        refine va_get (ci := 8) (v := .ref (ad 9)) (C := RX8) (T := TX8) (N := 42) hx hb hts hiX8 hown hK hP 0 rfl rfl 14 (by decide) hf39 (fun _ h9 => h9) rfl dX8_plannedWork_84 ?_
        refine lv_iload hx hb dX8_plannedWork_87 (lv_at hl 5 rfl) ?_
        refine k_iconst (n := 0) hx hb dX8_plannedWork_89 ?_
        refine k_iast hx hb hK hP hD hSz 9 0 rfl rfl (Nat.le_of_ble_eq_true rfl) hs dX8_plannedWork_90 (fun Hz lz hP hD hSz hs => ?_)
        have hP : va_P D vwCl (wM cI cZ cJ ad x_thrown x_buffered x_given x_isFolding x_work x_rebuilt x_streamed x_reports x_gapFrom x_gapSize x_elements x_wholeSize x_isLaid x_takenMany a_buffer a_length a_bytes a_weight a_live a_size a_list a_moved (upA a_planned l5 0) a_stream a_reportedEnd a_reportedKeyword a_starts a_keywordAt a_element a_long1 a_head a_tail a_next a_skip a_last a_whole a_edges a_covers a_weighs a_numbers a_takes a_takenAt) Hz := hP
        have hD : va_D Az (wM cI cZ cJ ad x_thrown x_buffered x_given x_isFolding x_work x_rebuilt x_streamed x_reports x_gapFrom x_gapSize x_elements x_wholeSize x_isLaid x_takenMany a_buffer a_length a_bytes a_weight a_live a_size a_list a_moved (upA a_planned l5 0) a_stream a_reportedEnd a_reportedKeyword a_starts a_keywordAt a_element a_long1 a_head a_tail a_next a_skip a_last a_whole a_edges a_covers a_weighs a_numbers a_takes a_takenAt) := hD
        refine k_iinc (x := l5) (k := 5) (lv' := [(5, .int (iI (l5 + 1))), (4, .int (iI (l4 + vz5))), (0, .ref (ad 0)), (1, .int (iI l1)), (2, .int (iI l2)), (3, .int (iI l3))]) hx hb dX8_plannedWork_91 hl rfl (by decide) rfl (fun ls hl => ?_)
        refine lv_goto (tgt := 61) hx hb dX8_plannedWork_94 (by decide) ?_
        exact ih x_thrown (upA a_planned l5 0) l1 l2 l3 (l4 + vz5) (l5 + 1) y0 y1 y2 hs Hz lz hP hD hSz ls (lv_sub hl [2, 3, 4, 5, 1, 0] rfl) kx
      · cases hs
        exact kx Hz lz hP hD hSz ls (lv_sub hl [0, 1, 2, 3, 4, 5] rfl)
  have Lz50 : ∀ (fu : Nat) (x_thrown : Int) (a_planned : (Int → Int)) (l1 : Int) (l2 : Int) (l3 : Int) (y0 : (Int → Int)) (y1 : Int), s_X8_plannedWork_50 fu a_planned l1 l2 l3 = some (y0, y1) → ∀ (Hz : Heap) (lz : List Loc), va_P D vwCl (wM cI cZ cJ ad x_thrown x_buffered x_given x_isFolding x_work x_rebuilt x_streamed x_reports x_gapFrom x_gapSize x_elements x_wholeSize x_isLaid x_takenMany a_buffer a_length a_bytes a_weight a_live a_size a_list a_moved a_planned a_stream a_reportedEnd a_reportedKeyword a_starts a_keywordAt a_element a_long1 a_head a_tail a_next a_skip a_last a_whole a_edges a_covers a_weighs a_numbers a_takes a_takenAt) Hz → va_D Az (wM cI cZ cJ ad x_thrown x_buffered x_given x_isFolding x_work x_rebuilt x_streamed x_reports x_gapFrom x_gapSize x_elements x_wholeSize x_isLaid x_takenMany a_buffer a_length a_bytes a_weight a_live a_size a_list a_moved a_planned a_stream a_reportedEnd a_reportedKeyword a_starts a_keywordAt a_element a_long1 a_head a_tail a_next a_skip a_last a_whole a_edges a_covers a_weighs a_numbers a_takes a_takenAt) → va_S Az s.heap Hz lz → ∀ ls : Array Slot, lv_has ls 6 [(0, .ref (ad 0)), (1, .int (iI l1)), (2, .int (iI l2)), (3, .int (iI l3))] → (∀ (Hz : Heap) (lz : List Loc), va_P D vwCl (wM cI cZ cJ ad x_thrown x_buffered x_given x_isFolding x_work x_rebuilt x_streamed x_reports x_gapFrom x_gapSize x_elements x_wholeSize x_isLaid x_takenMany a_buffer a_length a_bytes a_weight a_live a_size a_list a_moved y0 a_stream a_reportedEnd a_reportedKeyword a_starts a_keywordAt a_element a_long1 a_head a_tail a_next a_skip a_last a_whole a_edges a_covers a_weighs a_numbers a_takes a_takenAt) Hz → va_D Az (wM cI cZ cJ ad x_thrown x_buffered x_given x_isFolding x_work x_rebuilt x_streamed x_reports x_gapFrom x_gapSize x_elements x_wholeSize x_isLaid x_takenMany a_buffer a_length a_bytes a_weight a_live a_size a_list a_moved y0 a_stream a_reportedEnd a_reportedKeyword a_starts a_keywordAt a_element a_long1 a_head a_tail a_next a_skip a_last a_whole a_edges a_covers a_weighs a_numbers a_takes a_takenAt) → va_S Az s.heap Hz lz → ∀ ls : Array Slot, lv_has ls 6 [(2, .int (iI y1))] → W p l e (headSpec wsX8_plannedWork rm_X8_plannedWork).room s m args below meth c Hz lz 0 0 (MQ below (QW D vwCl (some (.int (iI r))) wz Az) args s 0 0 Az) (F0 m 117 ls [])) → W p l e (headSpec wsX8_plannedWork rm_X8_plannedWork).room s m args below meth c Hz lz 0 0 (MQ below (QW D vwCl (some (.int (iI r))) wz Az) args s 0 0 Az) (F0 m 50 ls []) := by
    intro fu
    induction fu with
    | zero => intro x_thrown a_planned l1 l2 l3 y0 y1 hs; cases hs
    | succ fu ih =>
      intro x_thrown a_planned l1 l2 l3 y0 y1 hs Hz lz hP hD hSz ls hl kx
      rw [s_X8_plannedWork_50_s] at hs
      refine lv_iload_n hx hb dX8_plannedWork_50 rfl (lv_at hl 3 rfl) ?_
      refine lv_iload_n hx hb dX8_plannedWork_51 rfl (lv_at hl 1 rfl) ?_
      refine k_icmp_ge (tgt := 117) hx hb hs dX8_plannedWork_52 (by decide) (fun hs => ?_) (fun hs => ?_)
      · refine k_iconst (n := 1) hx hb dX8_plannedWork_55 ?_
        refine lv_istore (lv' := [(4, .int (iI 1)), (0, .ref (ad 0)), (1, .int (iI l1)), (2, .int (iI l2)), (3, .int (iI l3))]) hx hb dX8_plannedWork_56 hl (by decide) rfl (fun ls hl => ?_)
        refine k_iconst (n := 0) hx hb dX8_plannedWork_58 ?_
        refine lv_istore (lv' := [(5, .int (iI 0)), (4, .int (iI 1)), (0, .ref (ad 0)), (1, .int (iI l1)), (2, .int (iI l2)), (3, .int (iI l3))]) hx hb dX8_plannedWork_59 hl (by decide) rfl (fun ls hl => ?_)
        obtain ⟨ez6, ez7, ez8, hq, hs⟩ := bd3_some hs
        refine Lz61 FU x_thrown a_planned l1 l2 l3 1 0 ez6 ez7 ez8 hq Hz lz hP hD hSz ls (lv_sub hl [2, 3, 4, 5, 1, 0] rfl) ?_
        intro Hz lz hP hD hSz ls hl
        refine lv_aload_n hx hb dX8_plannedWork_97 rfl (lv_at hl 0 rfl) ?_
        refine va_get (ci := 8) (v := .ref (ad 9)) (C := RX8) (T := TX8) (N := 42) hx hb hts hiX8 hown hK hP 0 rfl rfl 14 (by decide) hf39 (fun _ h9 => h9) rfl dX8_plannedWork_98 ?_
        refine lv_iload hx hb dX8_plannedWork_101 (lv_at hl 5 rfl) ?_
        refine lv_iload hx hb dX8_plannedWork_103 (lv_at hl 4 rfl) ?_
        refine k_iast hx hb hK hP hD hSz 9 0 rfl rfl (Nat.le_of_ble_eq_true rfl) hs dX8_plannedWork_105 (fun Hz lz hP hD hSz hs => ?_)
        have hP : va_P D vwCl (wM cI cZ cJ ad x_thrown x_buffered x_given x_isFolding x_work x_rebuilt x_streamed x_reports x_gapFrom x_gapSize x_elements x_wholeSize x_isLaid x_takenMany a_buffer a_length a_bytes a_weight a_live a_size a_list a_moved (upA ez6 ez8 ez7) a_stream a_reportedEnd a_reportedKeyword a_starts a_keywordAt a_element a_long1 a_head a_tail a_next a_skip a_last a_whole a_edges a_covers a_weighs a_numbers a_takes a_takenAt) Hz := hP
        have hD : va_D Az (wM cI cZ cJ ad x_thrown x_buffered x_given x_isFolding x_work x_rebuilt x_streamed x_reports x_gapFrom x_gapSize x_elements x_wholeSize x_isLaid x_takenMany a_buffer a_length a_bytes a_weight a_live a_size a_list a_moved (upA ez6 ez8 ez7) a_stream a_reportedEnd a_reportedKeyword a_starts a_keywordAt a_element a_long1 a_head a_tail a_next a_skip a_last a_whole a_edges a_covers a_weighs a_numbers a_takes a_takenAt) := hD
        refine lv_iload_n hx hb dX8_plannedWork_106 rfl (lv_at hl 2 rfl) ?_
        refine lv_iload hx hb dX8_plannedWork_107 (lv_at hl 4 rfl) ?_
        refine k_iadd hx hb dX8_plannedWork_109 ?_
        refine lv_istore_n (lv' := [(2, .int (iI (l2 + ez7))), (0, .ref (ad 0)), (1, .int (iI l1)), (3, .int (iI l3)), (4, .int (iI ez7)), (5, .int (iI ez8))]) hx hb dX8_plannedWork_110 rfl hl (by decide) rfl (fun ls hl => ?_)
        refine k_iinc (x := l3) (k := 3) (lv' := [(3, .int (iI (l3 + 1))), (2, .int (iI (l2 + ez7))), (0, .ref (ad 0)), (1, .int (iI l1)), (4, .int (iI ez7)), (5, .int (iI ez8))]) hx hb dX8_plannedWork_111 hl rfl (by decide) rfl (fun ls hl => ?_)
        refine lv_goto (tgt := 50) hx hb dX8_plannedWork_114 (by decide) ?_
        exact ih x_thrown (upA ez6 ez8 ez7) l1 (l2 + ez7) (l3 + 1) y0 y1 hs Hz lz hP hD hSz ls (lv_sub hl [2, 3, 1, 0] rfl) kx
      · cases hs
        exact kx Hz lz hP hD hSz ls (lv_sub hl [2] rfl)
  refine (?_ : ∀ (Hz : Heap) (lz : List Loc), va_P D vwCl (wM cI cZ cJ ad x_thrown x_buffered x_given x_isFolding x_work x_rebuilt x_streamed x_reports x_gapFrom x_gapSize x_elements x_wholeSize x_isLaid x_takenMany a_buffer a_length a_bytes a_weight a_live a_size a_list a_moved a_planned a_stream a_reportedEnd a_reportedKeyword a_starts a_keywordAt a_element a_long1 a_head a_tail a_next a_skip a_last a_whole a_edges a_covers a_weighs a_numbers a_takes a_takenAt) Hz → va_D Az (wM cI cZ cJ ad x_thrown x_buffered x_given x_isFolding x_work x_rebuilt x_streamed x_reports x_gapFrom x_gapSize x_elements x_wholeSize x_isLaid x_takenMany a_buffer a_length a_bytes a_weight a_live a_size a_list a_moved a_planned a_stream a_reportedEnd a_reportedKeyword a_starts a_keywordAt a_element a_long1 a_head a_tail a_next a_skip a_last a_whole a_edges a_covers a_weighs a_numbers a_takes a_takenAt) → va_S Az s.heap Hz lz → W p l e (headSpec wsX8_plannedWork rm_X8_plannedWork).room s m args below meth c Hz lz 0 0 (MQ below (QW D vwCl (some (.int (iI r))) wz Az) args s 0 0 Az) (F0 m 0 ls [])) s.heap [] hP hD hSz
  intro Hz lz hP hD hSz
  refine lv_aload_n hx hb dX8_plannedWork_0 rfl (lv_at hl 0 rfl) ?_
  refine k_iconst (n := 0) hx hb dX8_plannedWork_1 ?_
  refine va_put (ci := 8) (v := .int (iI 0)) (ty := .int) (C := RX8) (T := TX8) (N := 42) hx hb hts hiX8 tyX8 tyX8_ok nmX8 hown hK hP hD hSz 0 rfl rfl 0 (by decide) hf1 (fun _ h9 => h9) rfl (by decide +kernel) rfl rfl (Nat.le_of_ble_eq_true rfl) dX8_plannedWork_2 (fun Hz lz hP hD hSz => ?_)
  have hP : va_P D vwCl (wM cI cZ cJ ad 0 x_buffered x_given x_isFolding x_work x_rebuilt x_streamed x_reports x_gapFrom x_gapSize x_elements x_wholeSize x_isLaid x_takenMany a_buffer a_length a_bytes a_weight a_live a_size a_list a_moved a_planned a_stream a_reportedEnd a_reportedKeyword a_starts a_keywordAt a_element a_long1 a_head a_tail a_next a_skip a_last a_whole a_edges a_covers a_weighs a_numbers a_takes a_takenAt) Hz := hP
  have hD : va_D Az (wM cI cZ cJ ad 0 x_buffered x_given x_isFolding x_work x_rebuilt x_streamed x_reports x_gapFrom x_gapSize x_elements x_wholeSize x_isLaid x_takenMany a_buffer a_length a_bytes a_weight a_live a_size a_list a_moved a_planned a_stream a_reportedEnd a_reportedKeyword a_starts a_keywordAt a_element a_long1 a_head a_tail a_next a_skip a_last a_whole a_edges a_covers a_weighs a_numbers a_takes a_takenAt) := hD
  refine lv_iload_n hx hb dX8_plannedWork_5 rfl (lv_at hl 1 rfl) ?_
  refine k_i2l hx hb hs dX8_plannedWork_6 (fun hs => ?_)
  refine k_lconst (v := 0) hx hb (by decide) dX8_plannedWork_7 ?_
  refine k_ldc2 (n := 40) hx hb (by decide) hown hc198 dX8_plannedWork_8 ?_
  obtain ⟨vz1, hcz, hs⟩ := bd1_some hs
  refine k_rS (As := [.long (iL pz1), .long (iL 0), .long (iL 40)]) (rest := []) (st1 := [.int (iI vz1)]) ⟨hx, hb, hml, hown, hts⟩ hK (va_P_nil (D := D) (cl := vwCl)) (c_X8_isIn l D cI cZ cJ hcz) (va_cwS 3 hts gX8_plannedWork_X8_isIn rfl rfl rfl (by decide +kernel) ⟨Nat.le_of_ble_eq_true rfl, Nat.le_of_ble_eq_true rfl⟩) rfl hl.1 rfl (lv_room (Nat.le_of_ble_eq_true rfl)) dX8_plannedWork_11 ⟨Nat.zero_le _, Nat.zero_le _⟩ rfl ?_
  refine k_if_ne (tgt := 20) hx hb hs dX8_plannedWork_14 (by decide) (fun hs => ?_) (fun hs => ?_)
  · refine k_bipush (n := (-3)) hx hb (by decide) dX8_plannedWork_17 ?_
    cases hs
    exact k_iret_w hx hb hr hlk (by rw [hw1]; exact hP) hSz dX8_plannedWork_19 rfl
  · refine k_iconst (n := 0) hx hb dX8_plannedWork_20 ?_
    refine lv_istore_n (lv' := [(2, .int (iI 0)), (0, .ref (ad 0)), (1, .int (iI pz1))]) hx hb dX8_plannedWork_21 rfl hl (by decide) rfl (fun ls hl => ?_)
    obtain ⟨ez3, hq, hs⟩ := bd1_some hs
    refine Lz22 FU 0 a_planned pz1 0 ez3 hq Hz lz hP hD hSz ls (lv_sub hl [1, 2, 0] rfl) ?_
    intro Hz lz hP hD hSz ls hl
    refine k_iconst (n := 0) hx hb dX8_plannedWork_46 ?_
    refine lv_istore_n (lv' := [(2, .int (iI 0)), (0, .ref (ad 0)), (1, .int (iI pz1))]) hx hb dX8_plannedWork_47 rfl hl (by decide) rfl (fun ls hl => ?_)
    refine k_iconst (n := 0) hx hb dX8_plannedWork_48 ?_
    refine lv_istore_n (lv' := [(3, .int (iI 0)), (2, .int (iI 0)), (0, .ref (ad 0)), (1, .int (iI pz1))]) hx hb dX8_plannedWork_49 rfl hl (by decide) rfl (fun ls hl => ?_)
    obtain ⟨ez9, ez10, hq, hs⟩ := bd2_some hs
    refine Lz50 FU 0 ez3 pz1 0 0 ez9 ez10 hq Hz lz hP hD hSz ls (lv_sub hl [2, 3, 1, 0] rfl) ?_
    intro Hz lz hP hD hSz ls hl
    refine lv_iload_n hx hb dX8_plannedWork_117 rfl (lv_at hl 0 rfl) ?_
    cases hs
    exact k_iret_w hx hb hr hlk (by rw [hw1]; exact hP) hSz dX8_plannedWork_118 rfl
/-! X8_rebuildCount -/
noncomputable def s_X8_rebuildCount (x_thrown : Int) (x_rebuilt : Int) : Option (Int × Int) := some (x_rebuilt, 0)
def rm_X8_rebuildCount : Room := { frames := 0, cells := 0, slots := 0, locals := 0 }
set_option maxHeartbeats 4000000 in
set_option maxRecDepth 100000 in
theorem c_X8_rebuildCount (l : Launch) (D : va_G) (cI cZ cJ : ClassId) {ad : Nat → Nat} {x_thrown : Int} {x_buffered : Int} {x_given : Int} {x_isFolding : Int} {x_work : Int} {x_rebuilt : Int} {x_streamed : Int} {x_reports : Int} {x_gapFrom : Int} {x_gapSize : Int} {x_elements : Int} {x_wholeSize : Int} {x_isLaid : Int} {x_takenMany : Int} {a_buffer : (Int → Int)} {a_length : (Int → Int)} {a_bytes : (Int → Int)} {a_weight : (Int → Int)} {a_live : (Int → Int)} {a_size : (Int → Int)} {a_list : (Int → Int)} {a_moved : (Int → Int)} {a_planned : (Int → Int)} {a_stream : (Int → Int)} {a_reportedEnd : (Int → Int)} {a_reportedKeyword : (Int → Int)} {a_starts : (Int → Int)} {a_keywordAt : (Int → Int)} {a_element : (Int → Int)} {a_long1 : (Int → Int)} {a_head : (Int → Int)} {a_tail : (Int → Int)} {a_next : (Int → Int)} {a_skip : (Int → Int)} {a_last : (Int → Int)} {a_whole : (Int → Int)} {a_edges : (Int → Int)} {a_covers : (Int → Int)} {a_weighs : (Int → Int)} {a_numbers : (Int → Int)} {a_takes : (Int → Int)} {a_takenAt : (Int → Int)} {r : Int} {y_x_thrown : Int} {sz : Nat} (hs : s_X8_rebuildCount x_thrown x_rebuilt = some (r, y_x_thrown)) : Met l yX8_rebuildCount wsX8_rebuildCount rm_X8_rebuildCount (PW D vwCl [(cI, .int), (cZ, .boolean), (cJ, .long)] [.ref (ad 0)] (wM cI cZ cJ ad x_thrown x_buffered x_given x_isFolding x_work x_rebuilt x_streamed x_reports x_gapFrom x_gapSize x_elements x_wholeSize x_isLaid x_takenMany a_buffer a_length a_bytes a_weight a_live a_size a_list a_moved a_planned a_stream a_reportedEnd a_reportedKeyword a_starts a_keywordAt a_element a_long1 a_head a_tail a_next a_skip a_last a_whole a_edges a_covers a_weighs a_numbers a_takes a_takenAt) sz) (QW D vwCl (some (.int (iI r))) (wM cI cZ cJ ad y_x_thrown x_buffered x_given x_isFolding x_work x_rebuilt x_streamed x_reports x_gapFrom x_gapSize x_elements x_wholeSize x_isLaid x_takenMany a_buffer a_length a_bytes a_weight a_live a_size a_list a_moved a_planned a_stream a_reportedEnd a_reportedKeyword a_starts a_keywordAt a_element a_long1 a_head a_tail a_next a_skip a_last a_whole a_edges a_covers a_weighs a_numbers a_takes a_takenAt) (va_A (wM cI cZ cJ ad x_thrown x_buffered x_given x_isFolding x_work x_rebuilt x_streamed x_reports x_gapFrom x_gapSize x_elements x_wholeSize x_isLaid x_takenMany a_buffer a_length a_bytes a_weight a_live a_size a_list a_moved a_planned a_stream a_reportedEnd a_reportedKeyword a_starts a_keywordAt a_element a_long1 a_head a_tail a_next a_skip a_last a_whole a_edges a_covers a_weighs a_numbers a_takes a_takenAt) sz)) 0 0 (va_A (wM cI cZ cJ ad x_thrown x_buffered x_given x_isFolding x_work x_rebuilt x_streamed x_reports x_gapFrom x_gapSize x_elements x_wholeSize x_isLaid x_takenMany a_buffer a_length a_bytes a_weight a_live a_size a_list a_moved a_planned a_stream a_reportedEnd a_reportedKeyword a_starts a_keywordAt a_element a_long1 a_head a_tail a_next a_skip a_last a_whole a_edges a_covers a_weighs a_numbers a_takes a_takenAt) sz) := by
  refine Met.ofW (cc := cX8_rebuildCount) (maxL := 1) (ret := (some .int)) (by decide) rfl ?_
  intro p e s m args below meth c s₁ B hml hv
  obtain ⟨hav, hsz, hP, hK, hD0⟩ := hv
  have hx := B.exec
  have hb := B.bytes
  have hr := B.returns
  have hts := atoms_spec (ws := wsX8_rebuildCount) B.pre
  have hown : s.vm.findClass RX8 = some m.cls := findClass_of_methodNamed B.named
  have hlk := B.notSynchronized
  have hf1 : (Cond.fieldLink RX8 1 "KeywordMatcherModel" "thrown" "I").before args s = true := hts _ (List.mem_of_getElem? (i := 1) rfl)
  have hiX8 : ∀ w ∈ wsX80, w ∈ wsX8_rebuildCount := fun w h => List.mem_cons_of_mem _ (List.mem_append_right _ h)
  have hf176 : (Cond.fieldLink RX8 176 "KeywordMatcherModel" "rebuilt" "I").before args s = true := hts _ (List.mem_of_getElem? (i := 2) rfl)
  subst hsz
  have hD := hD0.self (sz := s.heap.size)
  generalize hAe : va_A (wM cI cZ cJ ad x_thrown x_buffered x_given x_isFolding x_work x_rebuilt x_streamed x_reports x_gapFrom x_gapSize x_elements x_wholeSize x_isLaid x_takenMany a_buffer a_length a_bytes a_weight a_live a_size a_list a_moved a_planned a_stream a_reportedEnd a_reportedKeyword a_starts a_keywordAt a_element a_long1 a_head a_tail a_next a_skip a_last a_whole a_edges a_covers a_weighs a_numbers a_takes a_takenAt) s.heap.size = Az at hD ⊢
  have hA : ∀ q : Nat, s.heap.size ≤ q → Az q := fun q h => by rw [← hAe]; exact Or.inr h
  clear hAe
  have hSz : va_S Az s.heap s.heap [] := va_S.rf
  obtain ⟨wz, hw1⟩ : ∃ z : va_W, z = (wM cI cZ cJ ad y_x_thrown x_buffered x_given x_isFolding x_work x_rebuilt x_streamed x_reports x_gapFrom x_gapSize x_elements x_wholeSize x_isLaid x_takenMany a_buffer a_length a_bytes a_weight a_live a_size a_list a_moved a_planned a_stream a_reportedEnd a_reportedKeyword a_starts a_keywordAt a_element a_long1 a_head a_tail a_next a_skip a_last a_whole a_edges a_covers a_weighs a_numbers a_takes a_takenAt) := ⟨_, rfl⟩
  rw [← hw1]
  have hl := lv_entry ([.ref (ad 0)]) (n := 1) (Nat.le_of_ble_eq_true rfl)
  rw [show entryFrame m args 1 = entryFrame m ([.ref (ad 0)] : List Value).toArray 1 from by rw [hav], lg_entry_eq]
  generalize (lg_sl ([.ref (ad 0)]) ++ List.replicate (1 - (lg_sl ([.ref (ad 0)])).length) Slot.unset).toArray = ls at hl ⊢
  have hl : lv_has ls 1 [(0, .ref (ad 0))] := hl
  unfold s_X8_rebuildCount at hs
  refine (?_ : ∀ (Hz : Heap) (lz : List Loc), va_P D vwCl (wM cI cZ cJ ad x_thrown x_buffered x_given x_isFolding x_work x_rebuilt x_streamed x_reports x_gapFrom x_gapSize x_elements x_wholeSize x_isLaid x_takenMany a_buffer a_length a_bytes a_weight a_live a_size a_list a_moved a_planned a_stream a_reportedEnd a_reportedKeyword a_starts a_keywordAt a_element a_long1 a_head a_tail a_next a_skip a_last a_whole a_edges a_covers a_weighs a_numbers a_takes a_takenAt) Hz → va_D Az (wM cI cZ cJ ad x_thrown x_buffered x_given x_isFolding x_work x_rebuilt x_streamed x_reports x_gapFrom x_gapSize x_elements x_wholeSize x_isLaid x_takenMany a_buffer a_length a_bytes a_weight a_live a_size a_list a_moved a_planned a_stream a_reportedEnd a_reportedKeyword a_starts a_keywordAt a_element a_long1 a_head a_tail a_next a_skip a_last a_whole a_edges a_covers a_weighs a_numbers a_takes a_takenAt) → va_S Az s.heap Hz lz → W p l e (headSpec wsX8_rebuildCount rm_X8_rebuildCount).room s m args below meth c Hz lz 0 0 (MQ below (QW D vwCl (some (.int (iI r))) wz Az) args s 0 0 Az) (F0 m 0 ls [])) s.heap [] hP hD hSz
  intro Hz lz hP hD hSz
  refine lv_aload_n hx hb dX8_rebuildCount_0 rfl (lv_at hl 0 rfl) ?_
  refine k_iconst (n := 0) hx hb dX8_rebuildCount_1 ?_
  refine va_put (ci := 8) (v := .int (iI 0)) (ty := .int) (C := RX8) (T := TX8) (N := 42) hx hb hts hiX8 tyX8 tyX8_ok nmX8 hown hK hP hD hSz 0 rfl rfl 0 (by decide) hf1 (fun _ h9 => h9) rfl (by decide +kernel) rfl rfl (Nat.le_of_ble_eq_true rfl) dX8_rebuildCount_2 (fun Hz lz hP hD hSz => ?_)
  have hP : va_P D vwCl (wM cI cZ cJ ad 0 x_buffered x_given x_isFolding x_work x_rebuilt x_streamed x_reports x_gapFrom x_gapSize x_elements x_wholeSize x_isLaid x_takenMany a_buffer a_length a_bytes a_weight a_live a_size a_list a_moved a_planned a_stream a_reportedEnd a_reportedKeyword a_starts a_keywordAt a_element a_long1 a_head a_tail a_next a_skip a_last a_whole a_edges a_covers a_weighs a_numbers a_takes a_takenAt) Hz := hP
  have hD : va_D Az (wM cI cZ cJ ad 0 x_buffered x_given x_isFolding x_work x_rebuilt x_streamed x_reports x_gapFrom x_gapSize x_elements x_wholeSize x_isLaid x_takenMany a_buffer a_length a_bytes a_weight a_live a_size a_list a_moved a_planned a_stream a_reportedEnd a_reportedKeyword a_starts a_keywordAt a_element a_long1 a_head a_tail a_next a_skip a_last a_whole a_edges a_covers a_weighs a_numbers a_takes a_takenAt) := hD
  refine lv_aload_n hx hb dX8_rebuildCount_5 rfl (lv_at hl 0 rfl) ?_
  refine va_get (ci := 8) (v := .int (iI x_rebuilt)) (C := RX8) (T := TX8) (N := 42) hx hb hts hiX8 hown hK hP 0 rfl rfl 13 (by decide) hf176 (fun _ h9 => h9) rfl dX8_rebuildCount_6 ?_
  cases hs
  exact k_iret_w hx hb hr hlk (by rw [hw1]; exact hP) hSz dX8_rebuildCount_9 rfl
/-! X8_reports -/
noncomputable def s_X8_reports_9 (fu : Nat) : Int → Int → Int → Int → (Int → Int) → (Int → Int) → (Int → Int) → (Int → Int) → (Int → Int) → (Int → Int) → Int → Int → Int → Option (Int × (Int → Int) × (Int → Int)) := Nat.rec (motive := fun _ => Int → Int → Int → Int → (Int → Int) → (Int → Int) → (Int → Int) → (Int → Int) → (Int → Int) → (Int → Int) → Int → Int → Int → Option (Int × (Int → Int) × (Int → Int))) (fun _ _ _ _ _ _ _ _ _ _ _ _ _ => none) (fun _ ih x_given x_isFolding x_streamed x_reports a_length a_bytes a_live a_stream a_reportedEnd a_reportedKeyword l1 l2 l3 => cLt l3 x_given ((rdA a_live 120 l3).bind (fun vz1 => cEq vz1 0 (ih x_given x_isFolding x_streamed x_reports a_length a_bytes a_live a_stream a_reportedEnd a_reportedKeyword l1 l2 (l3 + 1)) ((rdA a_length 120 l3).bind (fun vz2 => cEq vz2 l2 (bd1 (s_X8_isInStream x_isFolding x_streamed a_bytes a_stream l3 ((l1 - l2) + 1) l2) (fun vz3 => cEq vz3 0 (ih x_given x_isFolding x_streamed x_reports a_length a_bytes a_live a_stream a_reportedEnd a_reportedKeyword l1 l2 (l3 + 1)) (cLt x_reports 300 (cN 300 x_reports (cN 300 x_reports (ih x_given x_isFolding x_streamed (x_reports + 1) a_length a_bytes a_live a_stream (upA a_reportedEnd x_reports l1) (upA a_reportedKeyword x_reports l3) l1 l2 (l3 + 1)))) (ih x_given x_isFolding x_streamed (x_reports + 1) a_length a_bytes a_live a_stream a_reportedEnd a_reportedKeyword l1 l2 (l3 + 1))))) (ih x_given x_isFolding x_streamed x_reports a_length a_bytes a_live a_stream a_reportedEnd a_reportedKeyword l1 l2 (l3 + 1)))))) (some (x_reports, a_reportedEnd, a_reportedKeyword))) fu
theorem s_X8_reports_9_s (fu : Nat) (x_given : Int) (x_isFolding : Int) (x_streamed : Int) (x_reports : Int) (a_length : (Int → Int)) (a_bytes : (Int → Int)) (a_live : (Int → Int)) (a_stream : (Int → Int)) (a_reportedEnd : (Int → Int)) (a_reportedKeyword : (Int → Int)) (l1 : Int) (l2 : Int) (l3 : Int) : s_X8_reports_9 (fu + 1) x_given x_isFolding x_streamed x_reports a_length a_bytes a_live a_stream a_reportedEnd a_reportedKeyword l1 l2 l3 = (cLt l3 x_given ((rdA a_live 120 l3).bind (fun vz1 => cEq vz1 0 (s_X8_reports_9 fu x_given x_isFolding x_streamed x_reports a_length a_bytes a_live a_stream a_reportedEnd a_reportedKeyword l1 l2 (l3 + 1)) ((rdA a_length 120 l3).bind (fun vz2 => cEq vz2 l2 (bd1 (s_X8_isInStream x_isFolding x_streamed a_bytes a_stream l3 ((l1 - l2) + 1) l2) (fun vz3 => cEq vz3 0 (s_X8_reports_9 fu x_given x_isFolding x_streamed x_reports a_length a_bytes a_live a_stream a_reportedEnd a_reportedKeyword l1 l2 (l3 + 1)) (cLt x_reports 300 (cN 300 x_reports (cN 300 x_reports (s_X8_reports_9 fu x_given x_isFolding x_streamed (x_reports + 1) a_length a_bytes a_live a_stream (upA a_reportedEnd x_reports l1) (upA a_reportedKeyword x_reports l3) l1 l2 (l3 + 1)))) (s_X8_reports_9 fu x_given x_isFolding x_streamed (x_reports + 1) a_length a_bytes a_live a_stream a_reportedEnd a_reportedKeyword l1 l2 (l3 + 1))))) (s_X8_reports_9 fu x_given x_isFolding x_streamed x_reports a_length a_bytes a_live a_stream a_reportedEnd a_reportedKeyword l1 l2 (l3 + 1)))))) (some (x_reports, a_reportedEnd, a_reportedKeyword))) := rfl
theorem s_X8_reports_9_z (x_given : Int) (x_isFolding : Int) (x_streamed : Int) (x_reports : Int) (a_length : (Int → Int)) (a_bytes : (Int → Int)) (a_live : (Int → Int)) (a_stream : (Int → Int)) (a_reportedEnd : (Int → Int)) (a_reportedKeyword : (Int → Int)) (l1 : Int) (l2 : Int) (l3 : Int) : s_X8_reports_9 0 x_given x_isFolding x_streamed x_reports a_length a_bytes a_live a_stream a_reportedEnd a_reportedKeyword l1 l2 l3 = none := rfl
noncomputable def s_X8_reports_3 (fu : Nat) : Int → Int → Int → Int → (Int → Int) → (Int → Int) → (Int → Int) → (Int → Int) → (Int → Int) → (Int → Int) → Int → Int → Option (Int × (Int → Int) × (Int → Int)) := Nat.rec (motive := fun _ => Int → Int → Int → Int → (Int → Int) → (Int → Int) → (Int → Int) → (Int → Int) → (Int → Int) → (Int → Int) → Int → Int → Option (Int × (Int → Int) × (Int → Int))) (fun _ _ _ _ _ _ _ _ _ _ _ _ => none) (fun _ ih x_given x_isFolding x_streamed x_reports a_length a_bytes a_live a_stream a_reportedEnd a_reportedKeyword l1 l2 => cLt 0 l2 (bd3 (s_X8_reports_9 FU x_given x_isFolding x_streamed x_reports a_length a_bytes a_live a_stream a_reportedEnd a_reportedKeyword l1 l2 0) (fun ez4 ez5 ez6 => ih x_given x_isFolding x_streamed ez4 a_length a_bytes a_live a_stream ez5 ez6 l1 (l2 + (-1)))) (some (x_reports, a_reportedEnd, a_reportedKeyword))) fu
theorem s_X8_reports_3_s (fu : Nat) (x_given : Int) (x_isFolding : Int) (x_streamed : Int) (x_reports : Int) (a_length : (Int → Int)) (a_bytes : (Int → Int)) (a_live : (Int → Int)) (a_stream : (Int → Int)) (a_reportedEnd : (Int → Int)) (a_reportedKeyword : (Int → Int)) (l1 : Int) (l2 : Int) : s_X8_reports_3 (fu + 1) x_given x_isFolding x_streamed x_reports a_length a_bytes a_live a_stream a_reportedEnd a_reportedKeyword l1 l2 = (cLt 0 l2 (bd3 (s_X8_reports_9 FU x_given x_isFolding x_streamed x_reports a_length a_bytes a_live a_stream a_reportedEnd a_reportedKeyword l1 l2 0) (fun ez4 ez5 ez6 => (s_X8_reports_3 fu) x_given x_isFolding x_streamed ez4 a_length a_bytes a_live a_stream ez5 ez6 l1 (l2 + (-1)))) (some (x_reports, a_reportedEnd, a_reportedKeyword))) := rfl
theorem s_X8_reports_3_z (x_given : Int) (x_isFolding : Int) (x_streamed : Int) (x_reports : Int) (a_length : (Int → Int)) (a_bytes : (Int → Int)) (a_live : (Int → Int)) (a_stream : (Int → Int)) (a_reportedEnd : (Int → Int)) (a_reportedKeyword : (Int → Int)) (l1 : Int) (l2 : Int) : s_X8_reports_3 0 x_given x_isFolding x_streamed x_reports a_length a_bytes a_live a_stream a_reportedEnd a_reportedKeyword l1 l2 = none := rfl
noncomputable def s_X8_reports (x_given : Int) (x_isFolding : Int) (x_streamed : Int) (x_reports : Int) (a_length : (Int → Int)) (a_bytes : (Int → Int)) (a_live : (Int → Int)) (a_stream : (Int → Int)) (a_reportedEnd : (Int → Int)) (a_reportedKeyword : (Int → Int)) (pz1 : Int) : Option (Int × (Int → Int) × (Int → Int)) := bd3 (s_X8_reports_3 FU x_given x_isFolding x_streamed x_reports a_length a_bytes a_live a_stream a_reportedEnd a_reportedKeyword pz1 16) (fun ez7 ez8 ez9 => some (ez7, ez8, ez9))
def rm_X8_reports : Room := { frames := 4, cells := 0, slots := 0, locals := 92 }
set_option maxHeartbeats 4000000 in
set_option maxRecDepth 100000 in
theorem c_X8_reports (l : Launch) (D : va_G) (cI cZ cJ : ClassId) {ad : Nat → Nat} {x_thrown : Int} {x_buffered : Int} {x_given : Int} {x_isFolding : Int} {x_work : Int} {x_rebuilt : Int} {x_streamed : Int} {x_reports : Int} {x_gapFrom : Int} {x_gapSize : Int} {x_elements : Int} {x_wholeSize : Int} {x_isLaid : Int} {x_takenMany : Int} {a_buffer : (Int → Int)} {a_length : (Int → Int)} {a_bytes : (Int → Int)} {a_weight : (Int → Int)} {a_live : (Int → Int)} {a_size : (Int → Int)} {a_list : (Int → Int)} {a_moved : (Int → Int)} {a_planned : (Int → Int)} {a_stream : (Int → Int)} {a_reportedEnd : (Int → Int)} {a_reportedKeyword : (Int → Int)} {a_starts : (Int → Int)} {a_keywordAt : (Int → Int)} {a_element : (Int → Int)} {a_long1 : (Int → Int)} {a_head : (Int → Int)} {a_tail : (Int → Int)} {a_next : (Int → Int)} {a_skip : (Int → Int)} {a_last : (Int → Int)} {a_whole : (Int → Int)} {a_edges : (Int → Int)} {a_covers : (Int → Int)} {a_weighs : (Int → Int)} {a_numbers : (Int → Int)} {a_takes : (Int → Int)} {a_takenAt : (Int → Int)} {pz1 : Int} {y_x_reports : Int} {y_a_reportedEnd : (Int → Int)} {y_a_reportedKeyword : (Int → Int)} {sz : Nat} (hs : s_X8_reports x_given x_isFolding x_streamed x_reports a_length a_bytes a_live a_stream a_reportedEnd a_reportedKeyword pz1 = some (y_x_reports, y_a_reportedEnd, y_a_reportedKeyword)) : Met l yX8_reports wsX8_reports rm_X8_reports (PW D vwCl [(cI, .int), (cZ, .boolean), (cJ, .long)] [.ref (ad 0), .int (iI pz1)] (wM cI cZ cJ ad x_thrown x_buffered x_given x_isFolding x_work x_rebuilt x_streamed x_reports x_gapFrom x_gapSize x_elements x_wholeSize x_isLaid x_takenMany a_buffer a_length a_bytes a_weight a_live a_size a_list a_moved a_planned a_stream a_reportedEnd a_reportedKeyword a_starts a_keywordAt a_element a_long1 a_head a_tail a_next a_skip a_last a_whole a_edges a_covers a_weighs a_numbers a_takes a_takenAt) sz) (QW D vwCl none (wM cI cZ cJ ad x_thrown x_buffered x_given x_isFolding x_work x_rebuilt x_streamed y_x_reports x_gapFrom x_gapSize x_elements x_wholeSize x_isLaid x_takenMany a_buffer a_length a_bytes a_weight a_live a_size a_list a_moved a_planned a_stream y_a_reportedEnd y_a_reportedKeyword a_starts a_keywordAt a_element a_long1 a_head a_tail a_next a_skip a_last a_whole a_edges a_covers a_weighs a_numbers a_takes a_takenAt) (va_A (wM cI cZ cJ ad x_thrown x_buffered x_given x_isFolding x_work x_rebuilt x_streamed x_reports x_gapFrom x_gapSize x_elements x_wholeSize x_isLaid x_takenMany a_buffer a_length a_bytes a_weight a_live a_size a_list a_moved a_planned a_stream a_reportedEnd a_reportedKeyword a_starts a_keywordAt a_element a_long1 a_head a_tail a_next a_skip a_last a_whole a_edges a_covers a_weighs a_numbers a_takes a_takenAt) sz)) 0 0 (va_A (wM cI cZ cJ ad x_thrown x_buffered x_given x_isFolding x_work x_rebuilt x_streamed x_reports x_gapFrom x_gapSize x_elements x_wholeSize x_isLaid x_takenMany a_buffer a_length a_bytes a_weight a_live a_size a_list a_moved a_planned a_stream a_reportedEnd a_reportedKeyword a_starts a_keywordAt a_element a_long1 a_head a_tail a_next a_skip a_last a_whole a_edges a_covers a_weighs a_numbers a_takes a_takenAt) sz) := by
  refine Met.ofW (cc := cX8_reports) (maxL := 4) (ret := none) (by decide) rfl ?_
  intro p e s m args below meth c s₁ B hml hv
  obtain ⟨hav, hsz, hP, hK, hD0⟩ := hv
  have hx := B.exec
  have hb := B.bytes
  have hr := B.returns
  have hts := atoms_spec (ws := wsX8_reports) B.pre
  have hown : s.vm.findClass RX8 = some m.cls := findClass_of_methodNamed B.named
  have hlk := B.notSynchronized
  have hf102 : (Cond.fieldLink RX8 102 "KeywordMatcherModel" "given" "I").before args s = true := hts _ (List.mem_of_getElem? (i := 1) rfl)
  have hiX8 : ∀ w ∈ wsX80, w ∈ wsX8_reports := fun w h => List.mem_cons_of_mem _ (List.mem_append_right _ h)
  have hf26 : (Cond.fieldLink RX8 26 "KeywordMatcherModel" "live" "[Z").before args s = true := hts _ (List.mem_of_getElem? (i := 2) rfl)
  have hf17 : (Cond.fieldLink RX8 17 "KeywordMatcherModel" "length" "[I").before args s = true := hts _ (List.mem_of_getElem? (i := 3) rfl)
  have hf200 : (Cond.fieldLink RX8 200 "KeywordMatcherModel" "reports" "I").before args s = true := hts _ (List.mem_of_getElem? (i := 4) rfl)
  have hf45 : (Cond.fieldLink RX8 45 "KeywordMatcherModel" "reportedEnd" "[I").before args s = true := hts _ (List.mem_of_getElem? (i := 5) rfl)
  have hf48 : (Cond.fieldLink RX8 48 "KeywordMatcherModel" "reportedKeyword" "[I").before args s = true := hts _ (List.mem_of_getElem? (i := 6) rfl)
  subst hsz
  have hD := hD0.self (sz := s.heap.size)
  generalize hAe : va_A (wM cI cZ cJ ad x_thrown x_buffered x_given x_isFolding x_work x_rebuilt x_streamed x_reports x_gapFrom x_gapSize x_elements x_wholeSize x_isLaid x_takenMany a_buffer a_length a_bytes a_weight a_live a_size a_list a_moved a_planned a_stream a_reportedEnd a_reportedKeyword a_starts a_keywordAt a_element a_long1 a_head a_tail a_next a_skip a_last a_whole a_edges a_covers a_weighs a_numbers a_takes a_takenAt) s.heap.size = Az at hD ⊢
  have hA : ∀ q : Nat, s.heap.size ≤ q → Az q := fun q h => by rw [← hAe]; exact Or.inr h
  clear hAe
  have hSz : va_S Az s.heap s.heap [] := va_S.rf
  obtain ⟨wz, hw1⟩ : ∃ z : va_W, z = (wM cI cZ cJ ad x_thrown x_buffered x_given x_isFolding x_work x_rebuilt x_streamed y_x_reports x_gapFrom x_gapSize x_elements x_wholeSize x_isLaid x_takenMany a_buffer a_length a_bytes a_weight a_live a_size a_list a_moved a_planned a_stream y_a_reportedEnd y_a_reportedKeyword a_starts a_keywordAt a_element a_long1 a_head a_tail a_next a_skip a_last a_whole a_edges a_covers a_weighs a_numbers a_takes a_takenAt) := ⟨_, rfl⟩
  rw [← hw1]
  have hl := lv_entry ([.ref (ad 0), .int (iI pz1)]) (n := 4) (Nat.le_of_ble_eq_true rfl)
  rw [show entryFrame m args 4 = entryFrame m ([.ref (ad 0), .int (iI pz1)] : List Value).toArray 4 from by rw [hav], lg_entry_eq]
  generalize (lg_sl ([.ref (ad 0), .int (iI pz1)]) ++ List.replicate (4 - (lg_sl ([.ref (ad 0), .int (iI pz1)])).length) Slot.unset).toArray = ls at hl ⊢
  have hl : lv_has ls 4 [(0, .ref (ad 0)), (1, .int (iI pz1))] := hl
  unfold s_X8_reports at hs
  have Lz9 : ∀ (fu : Nat) (x_reports : Int) (a_reportedEnd : (Int → Int)) (a_reportedKeyword : (Int → Int)) (l1 : Int) (l2 : Int) (l3 : Int) (y0 : Int) (y1 : (Int → Int)) (y2 : (Int → Int)), s_X8_reports_9 fu x_given x_isFolding x_streamed x_reports a_length a_bytes a_live a_stream a_reportedEnd a_reportedKeyword l1 l2 l3 = some (y0, y1, y2) → ∀ (Hz : Heap) (lz : List Loc), va_P D vwCl (wM cI cZ cJ ad x_thrown x_buffered x_given x_isFolding x_work x_rebuilt x_streamed x_reports x_gapFrom x_gapSize x_elements x_wholeSize x_isLaid x_takenMany a_buffer a_length a_bytes a_weight a_live a_size a_list a_moved a_planned a_stream a_reportedEnd a_reportedKeyword a_starts a_keywordAt a_element a_long1 a_head a_tail a_next a_skip a_last a_whole a_edges a_covers a_weighs a_numbers a_takes a_takenAt) Hz → va_D Az (wM cI cZ cJ ad x_thrown x_buffered x_given x_isFolding x_work x_rebuilt x_streamed x_reports x_gapFrom x_gapSize x_elements x_wholeSize x_isLaid x_takenMany a_buffer a_length a_bytes a_weight a_live a_size a_list a_moved a_planned a_stream a_reportedEnd a_reportedKeyword a_starts a_keywordAt a_element a_long1 a_head a_tail a_next a_skip a_last a_whole a_edges a_covers a_weighs a_numbers a_takes a_takenAt) → va_S Az s.heap Hz lz → ∀ ls : Array Slot, lv_has ls 4 [(0, .ref (ad 0)), (1, .int (iI l1)), (2, .int (iI l2)), (3, .int (iI l3))] → (∀ (Hz : Heap) (lz : List Loc), va_P D vwCl (wM cI cZ cJ ad x_thrown x_buffered x_given x_isFolding x_work x_rebuilt x_streamed y0 x_gapFrom x_gapSize x_elements x_wholeSize x_isLaid x_takenMany a_buffer a_length a_bytes a_weight a_live a_size a_list a_moved a_planned a_stream y1 y2 a_starts a_keywordAt a_element a_long1 a_head a_tail a_next a_skip a_last a_whole a_edges a_covers a_weighs a_numbers a_takes a_takenAt) Hz → va_D Az (wM cI cZ cJ ad x_thrown x_buffered x_given x_isFolding x_work x_rebuilt x_streamed y0 x_gapFrom x_gapSize x_elements x_wholeSize x_isLaid x_takenMany a_buffer a_length a_bytes a_weight a_live a_size a_list a_moved a_planned a_stream y1 y2 a_starts a_keywordAt a_element a_long1 a_head a_tail a_next a_skip a_last a_whole a_edges a_covers a_weighs a_numbers a_takes a_takenAt) → va_S Az s.heap Hz lz → ∀ ls : Array Slot, lv_has ls 4 [(0, .ref (ad 0)), (1, .int (iI l1)), (2, .int (iI l2))] → W p l e (headSpec wsX8_reports rm_X8_reports).room s m args below meth c Hz lz 0 0 (MQ below (QW D vwCl none wz Az) args s 0 0 Az) (F0 m 99 ls [])) → W p l e (headSpec wsX8_reports rm_X8_reports).room s m args below meth c Hz lz 0 0 (MQ below (QW D vwCl none wz Az) args s 0 0 Az) (F0 m 9 ls []) := by
    intro fu
    induction fu with
    | zero => intro x_reports a_reportedEnd a_reportedKeyword l1 l2 l3 y0 y1 y2 hs; cases hs
    | succ fu ih =>
      intro x_reports a_reportedEnd a_reportedKeyword l1 l2 l3 y0 y1 y2 hs Hz lz hP hD hSz ls hl kx
      rw [s_X8_reports_9_s] at hs
      refine lv_iload_n hx hb dX8_reports_9 rfl (lv_at hl 3 rfl) ?_
      refine lv_aload_n hx hb dX8_reports_10 rfl (lv_at hl 0 rfl) ?_
      refine va_get (ci := 8) (v := .int (iI x_given)) (C := RX8) (T := TX8) (N := 42) hx hb hts hiX8 hown hK hP 0 rfl rfl 7 (by decide) hf102 (fun _ h9 => h9) rfl dX8_reports_11 ?_
      refine k_icmp_ge (tgt := 99) hx hb hs dX8_reports_14 (by decide) (fun hs => ?_) (fun hs => ?_)
      · refine lv_aload_n hx hb dX8_reports_17 rfl (lv_at hl 0 rfl) ?_
        refine va_get (ci := 8) (v := .ref (ad 5)) (C := RX8) (T := TX8) (N := 42) hx hb hts hiX8 hown hK hP 0 rfl rfl 6 (by decide) hf26 (fun _ h9 => h9) rfl dX8_reports_18 ?_
        refine lv_iload_n hx hb dX8_reports_21 rfl (lv_at hl 3 rfl) ?_
        refine k_zald hx hb hK hP 5 1 rfl rfl (Nat.le_of_ble_eq_true rfl) hs dX8_reports_22 (fun vz1 hs => ?_)
        refine k_if_eq (tgt := 93) hx hb hs dX8_reports_23 (by decide) (fun hs => ?_) (fun hs => ?_)
        · refine k_iinc (x := l3) (k := 3) (lv' := [(3, .int (iI (l3 + 1))), (0, .ref (ad 0)), (1, .int (iI l1)), (2, .int (iI l2))]) hx hb dX8_reports_93 hl rfl (by decide) rfl (fun ls hl => ?_)
          refine lv_goto (tgt := 9) hx hb dX8_reports_96 (by decide) ?_
          exact ih x_reports a_reportedEnd a_reportedKeyword l1 l2 (l3 + 1) y0 y1 y2 hs Hz lz hP hD hSz ls (lv_sub hl [1, 2, 3, 0] rfl) kx
        · refine lv_aload_n hx hb dX8_reports_26 rfl (lv_at hl 0 rfl) ?_
          refine va_get (ci := 8) (v := .ref (ad 2)) (C := RX8) (T := TX8) (N := 42) hx hb hts hiX8 hown hK hP 0 rfl rfl 3 (by decide) hf17 (fun _ h9 => h9) rfl dX8_reports_27 ?_
          refine lv_iload_n hx hb dX8_reports_30 rfl (lv_at hl 3 rfl) ?_
          refine k_iald hx hb hK hP 2 0 rfl rfl (Nat.le_of_ble_eq_true rfl) hs dX8_reports_31 (fun vz2 hs => ?_)
          refine lv_iload_n hx hb dX8_reports_32 rfl (lv_at hl 2 rfl) ?_
          refine k_icmp_ne (tgt := 93) hx hb hs dX8_reports_33 (by decide) (fun hs => ?_) (fun hs => ?_)
          · refine lv_aload_n hx hb dX8_reports_36 rfl (lv_at hl 0 rfl) ?_
            refine lv_iload_n hx hb dX8_reports_37 rfl (lv_at hl 3 rfl) ?_
            refine lv_iload_n hx hb dX8_reports_38 rfl (lv_at hl 1 rfl) ?_
            refine lv_iload_n hx hb dX8_reports_39 rfl (lv_at hl 2 rfl) ?_
            refine k_isub hx hb dX8_reports_40 ?_
            refine k_iconst (n := 1) hx hb dX8_reports_41 ?_
            refine k_iadd hx hb dX8_reports_42 ?_
            refine lv_iload_n hx hb dX8_reports_43 rfl (lv_at hl 2 rfl) ?_
            obtain ⟨vz3, hcz, hs⟩ := bd1_some hs
            refine k_rV (As := [.int (iI l3), .int (iI ((l1 - l2) + 1)), .int (iI l2)]) (rest := []) (st1 := [.int (iI vz3)]) ⟨hx, hb, hml, hown, hts⟩ hK hP (c_X8_isInStream l D cI cZ cJ hcz) (cwV 3 hts gX8_reports_X8_isInStream rfl rfl rfl (by decide +kernel) ⟨Nat.le_of_ble_eq_true rfl, Nat.le_of_ble_eq_true rfl⟩) 0 rfl rfl rfl rfl hl.1 rfl (lv_room (Nat.le_of_ble_eq_true rfl)) dX8_reports_44 ⟨Nat.zero_le _, Nat.zero_le _⟩ rfl ?_
            refine k_if_ne (tgt := 53) hx hb hs dX8_reports_47 (by decide) (fun hs => ?_) (fun hs => ?_)
            · refine lv_goto (tgt := 93) hx hb dX8_reports_50 (by decide) ?_
              refine k_iinc (x := l3) (k := 3) (lv' := [(3, .int (iI (l3 + 1))), (0, .ref (ad 0)), (1, .int (iI l1)), (2, .int (iI l2))]) hx hb dX8_reports_93 hl rfl (by decide) rfl (fun ls hl => ?_)
              refine lv_goto (tgt := 9) hx hb dX8_reports_96 (by decide) ?_
              exact ih x_reports a_reportedEnd a_reportedKeyword l1 l2 (l3 + 1) y0 y1 y2 hs Hz lz hP hD hSz ls (lv_sub hl [1, 2, 3, 0] rfl) kx
            · refine lv_aload_n hx hb dX8_reports_53 rfl (lv_at hl 0 rfl) ?_
              refine va_get (ci := 8) (v := .int (iI x_reports)) (C := RX8) (T := TX8) (N := 42) hx hb hts hiX8 hown hK hP 0 rfl rfl 19 (by decide) hf200 (fun _ h9 => h9) rfl dX8_reports_54 ?_
              refine k_sipush (n := 300) hx hb (by decide) dX8_reports_57 ?_
              refine k_icmp_ge (tgt := 83) hx hb hs dX8_reports_60 (by decide) (fun hs => ?_) (fun hs => ?_)
              · refine lv_aload_n hx hb dX8_reports_63 rfl (lv_at hl 0 rfl) ?_
                refine va_get (ci := 8) (v := .ref (ad 11)) (C := RX8) (T := TX8) (N := 42) hx hb hts hiX8 hown hK hP 0 rfl rfl 16 (by decide) hf45 (fun _ h9 => h9) rfl dX8_reports_64 ?_
                refine lv_aload_n hx hb dX8_reports_67 rfl (lv_at hl 0 rfl) ?_
                refine va_get (ci := 8) (v := .int (iI x_reports)) (C := RX8) (T := TX8) (N := 42) hx hb hts hiX8 hown hK hP 0 rfl rfl 19 (by decide) hf200 (fun _ h9 => h9) rfl dX8_reports_68 ?_
                refine lv_iload_n hx hb dX8_reports_71 rfl (lv_at hl 1 rfl) ?_
                refine k_iast hx hb hK hP hD hSz 11 0 rfl rfl (Nat.le_of_ble_eq_true rfl) hs dX8_reports_72 (fun Hz lz hP hD hSz hs => ?_)
                have hP : va_P D vwCl (wM cI cZ cJ ad x_thrown x_buffered x_given x_isFolding x_work x_rebuilt x_streamed x_reports x_gapFrom x_gapSize x_elements x_wholeSize x_isLaid x_takenMany a_buffer a_length a_bytes a_weight a_live a_size a_list a_moved a_planned a_stream (upA a_reportedEnd x_reports l1) a_reportedKeyword a_starts a_keywordAt a_element a_long1 a_head a_tail a_next a_skip a_last a_whole a_edges a_covers a_weighs a_numbers a_takes a_takenAt) Hz := hP
                have hD : va_D Az (wM cI cZ cJ ad x_thrown x_buffered x_given x_isFolding x_work x_rebuilt x_streamed x_reports x_gapFrom x_gapSize x_elements x_wholeSize x_isLaid x_takenMany a_buffer a_length a_bytes a_weight a_live a_size a_list a_moved a_planned a_stream (upA a_reportedEnd x_reports l1) a_reportedKeyword a_starts a_keywordAt a_element a_long1 a_head a_tail a_next a_skip a_last a_whole a_edges a_covers a_weighs a_numbers a_takes a_takenAt) := hD
                refine lv_aload_n hx hb dX8_reports_73 rfl (lv_at hl 0 rfl) ?_
                refine va_get (ci := 8) (v := .ref (ad 12)) (C := RX8) (T := TX8) (N := 42) hx hb hts hiX8 hown hK hP 0 rfl rfl 17 (by decide) hf48 (fun _ h9 => h9) rfl dX8_reports_74 ?_
                refine lv_aload_n hx hb dX8_reports_77 rfl (lv_at hl 0 rfl) ?_
                refine va_get (ci := 8) (v := .int (iI x_reports)) (C := RX8) (T := TX8) (N := 42) hx hb hts hiX8 hown hK hP 0 rfl rfl 19 (by decide) hf200 (fun _ h9 => h9) rfl dX8_reports_78 ?_
                refine lv_iload_n hx hb dX8_reports_81 rfl (lv_at hl 3 rfl) ?_
                refine k_iast hx hb hK hP hD hSz 12 0 rfl rfl (Nat.le_of_ble_eq_true rfl) hs dX8_reports_82 (fun Hz lz hP hD hSz hs => ?_)
                have hP : va_P D vwCl (wM cI cZ cJ ad x_thrown x_buffered x_given x_isFolding x_work x_rebuilt x_streamed x_reports x_gapFrom x_gapSize x_elements x_wholeSize x_isLaid x_takenMany a_buffer a_length a_bytes a_weight a_live a_size a_list a_moved a_planned a_stream (upA a_reportedEnd x_reports l1) (upA a_reportedKeyword x_reports l3) a_starts a_keywordAt a_element a_long1 a_head a_tail a_next a_skip a_last a_whole a_edges a_covers a_weighs a_numbers a_takes a_takenAt) Hz := hP
                have hD : va_D Az (wM cI cZ cJ ad x_thrown x_buffered x_given x_isFolding x_work x_rebuilt x_streamed x_reports x_gapFrom x_gapSize x_elements x_wholeSize x_isLaid x_takenMany a_buffer a_length a_bytes a_weight a_live a_size a_list a_moved a_planned a_stream (upA a_reportedEnd x_reports l1) (upA a_reportedKeyword x_reports l3) a_starts a_keywordAt a_element a_long1 a_head a_tail a_next a_skip a_last a_whole a_edges a_covers a_weighs a_numbers a_takes a_takenAt) := hD
                refine lv_aload_n hx hb dX8_reports_83 rfl (lv_at hl 0 rfl) ?_
                refine lv_dup hx hb dX8_reports_84 rfl ?_
                refine va_get (ci := 8) (v := .int (iI x_reports)) (C := RX8) (T := TX8) (N := 42) hx hb hts hiX8 hown hK hP 0 rfl rfl 19 (by decide) hf200 (fun _ h9 => h9) rfl dX8_reports_85 ?_
                refine k_iconst (n := 1) hx hb dX8_reports_88 ?_
                refine k_iadd hx hb dX8_reports_89 ?_
                refine va_put (ci := 8) (v := .int (iI (x_reports + 1))) (ty := .int) (C := RX8) (T := TX8) (N := 42) hx hb hts hiX8 tyX8 tyX8_ok nmX8 hown hK hP hD hSz 0 rfl rfl 19 (by decide) hf200 (fun _ h9 => h9) rfl (by decide +kernel) rfl rfl (Nat.le_of_ble_eq_true rfl) dX8_reports_90 (fun Hz lz hP hD hSz => ?_)
                have hP : va_P D vwCl (wM cI cZ cJ ad x_thrown x_buffered x_given x_isFolding x_work x_rebuilt x_streamed (x_reports + 1) x_gapFrom x_gapSize x_elements x_wholeSize x_isLaid x_takenMany a_buffer a_length a_bytes a_weight a_live a_size a_list a_moved a_planned a_stream (upA a_reportedEnd x_reports l1) (upA a_reportedKeyword x_reports l3) a_starts a_keywordAt a_element a_long1 a_head a_tail a_next a_skip a_last a_whole a_edges a_covers a_weighs a_numbers a_takes a_takenAt) Hz := hP
                have hD : va_D Az (wM cI cZ cJ ad x_thrown x_buffered x_given x_isFolding x_work x_rebuilt x_streamed (x_reports + 1) x_gapFrom x_gapSize x_elements x_wholeSize x_isLaid x_takenMany a_buffer a_length a_bytes a_weight a_live a_size a_list a_moved a_planned a_stream (upA a_reportedEnd x_reports l1) (upA a_reportedKeyword x_reports l3) a_starts a_keywordAt a_element a_long1 a_head a_tail a_next a_skip a_last a_whole a_edges a_covers a_weighs a_numbers a_takes a_takenAt) := hD
                refine k_iinc (x := l3) (k := 3) (lv' := [(3, .int (iI (l3 + 1))), (0, .ref (ad 0)), (1, .int (iI l1)), (2, .int (iI l2))]) hx hb dX8_reports_93 hl rfl (by decide) rfl (fun ls hl => ?_)
                refine lv_goto (tgt := 9) hx hb dX8_reports_96 (by decide) ?_
                exact ih (x_reports + 1) (upA a_reportedEnd x_reports l1) (upA a_reportedKeyword x_reports l3) l1 l2 (l3 + 1) y0 y1 y2 hs Hz lz hP hD hSz ls (lv_sub hl [1, 2, 3, 0] rfl) kx
              · refine lv_aload_n hx hb dX8_reports_83 rfl (lv_at hl 0 rfl) ?_
                refine lv_dup hx hb dX8_reports_84 rfl ?_
                refine va_get (ci := 8) (v := .int (iI x_reports)) (C := RX8) (T := TX8) (N := 42) hx hb hts hiX8 hown hK hP 0 rfl rfl 19 (by decide) hf200 (fun _ h9 => h9) rfl dX8_reports_85 ?_
                refine k_iconst (n := 1) hx hb dX8_reports_88 ?_
                refine k_iadd hx hb dX8_reports_89 ?_
                refine va_put (ci := 8) (v := .int (iI (x_reports + 1))) (ty := .int) (C := RX8) (T := TX8) (N := 42) hx hb hts hiX8 tyX8 tyX8_ok nmX8 hown hK hP hD hSz 0 rfl rfl 19 (by decide) hf200 (fun _ h9 => h9) rfl (by decide +kernel) rfl rfl (Nat.le_of_ble_eq_true rfl) dX8_reports_90 (fun Hz lz hP hD hSz => ?_)
                have hP : va_P D vwCl (wM cI cZ cJ ad x_thrown x_buffered x_given x_isFolding x_work x_rebuilt x_streamed (x_reports + 1) x_gapFrom x_gapSize x_elements x_wholeSize x_isLaid x_takenMany a_buffer a_length a_bytes a_weight a_live a_size a_list a_moved a_planned a_stream a_reportedEnd a_reportedKeyword a_starts a_keywordAt a_element a_long1 a_head a_tail a_next a_skip a_last a_whole a_edges a_covers a_weighs a_numbers a_takes a_takenAt) Hz := hP
                have hD : va_D Az (wM cI cZ cJ ad x_thrown x_buffered x_given x_isFolding x_work x_rebuilt x_streamed (x_reports + 1) x_gapFrom x_gapSize x_elements x_wholeSize x_isLaid x_takenMany a_buffer a_length a_bytes a_weight a_live a_size a_list a_moved a_planned a_stream a_reportedEnd a_reportedKeyword a_starts a_keywordAt a_element a_long1 a_head a_tail a_next a_skip a_last a_whole a_edges a_covers a_weighs a_numbers a_takes a_takenAt) := hD
                refine k_iinc (x := l3) (k := 3) (lv' := [(3, .int (iI (l3 + 1))), (0, .ref (ad 0)), (1, .int (iI l1)), (2, .int (iI l2))]) hx hb dX8_reports_93 hl rfl (by decide) rfl (fun ls hl => ?_)
                refine lv_goto (tgt := 9) hx hb dX8_reports_96 (by decide) ?_
                exact ih (x_reports + 1) a_reportedEnd a_reportedKeyword l1 l2 (l3 + 1) y0 y1 y2 hs Hz lz hP hD hSz ls (lv_sub hl [1, 2, 3, 0] rfl) kx
          · refine k_iinc (x := l3) (k := 3) (lv' := [(3, .int (iI (l3 + 1))), (0, .ref (ad 0)), (1, .int (iI l1)), (2, .int (iI l2))]) hx hb dX8_reports_93 hl rfl (by decide) rfl (fun ls hl => ?_)
            refine lv_goto (tgt := 9) hx hb dX8_reports_96 (by decide) ?_
            exact ih x_reports a_reportedEnd a_reportedKeyword l1 l2 (l3 + 1) y0 y1 y2 hs Hz lz hP hD hSz ls (lv_sub hl [1, 2, 3, 0] rfl) kx
      · cases hs
        exact kx Hz lz hP hD hSz ls (lv_sub hl [0, 1, 2] rfl)
  have Lz3 : ∀ (fu : Nat) (x_reports : Int) (a_reportedEnd : (Int → Int)) (a_reportedKeyword : (Int → Int)) (l1 : Int) (l2 : Int) (y0 : Int) (y1 : (Int → Int)) (y2 : (Int → Int)), s_X8_reports_3 fu x_given x_isFolding x_streamed x_reports a_length a_bytes a_live a_stream a_reportedEnd a_reportedKeyword l1 l2 = some (y0, y1, y2) → ∀ (Hz : Heap) (lz : List Loc), va_P D vwCl (wM cI cZ cJ ad x_thrown x_buffered x_given x_isFolding x_work x_rebuilt x_streamed x_reports x_gapFrom x_gapSize x_elements x_wholeSize x_isLaid x_takenMany a_buffer a_length a_bytes a_weight a_live a_size a_list a_moved a_planned a_stream a_reportedEnd a_reportedKeyword a_starts a_keywordAt a_element a_long1 a_head a_tail a_next a_skip a_last a_whole a_edges a_covers a_weighs a_numbers a_takes a_takenAt) Hz → va_D Az (wM cI cZ cJ ad x_thrown x_buffered x_given x_isFolding x_work x_rebuilt x_streamed x_reports x_gapFrom x_gapSize x_elements x_wholeSize x_isLaid x_takenMany a_buffer a_length a_bytes a_weight a_live a_size a_list a_moved a_planned a_stream a_reportedEnd a_reportedKeyword a_starts a_keywordAt a_element a_long1 a_head a_tail a_next a_skip a_last a_whole a_edges a_covers a_weighs a_numbers a_takes a_takenAt) → va_S Az s.heap Hz lz → ∀ ls : Array Slot, lv_has ls 4 [(0, .ref (ad 0)), (1, .int (iI l1)), (2, .int (iI l2))] → (∀ (Hz : Heap) (lz : List Loc), va_P D vwCl (wM cI cZ cJ ad x_thrown x_buffered x_given x_isFolding x_work x_rebuilt x_streamed y0 x_gapFrom x_gapSize x_elements x_wholeSize x_isLaid x_takenMany a_buffer a_length a_bytes a_weight a_live a_size a_list a_moved a_planned a_stream y1 y2 a_starts a_keywordAt a_element a_long1 a_head a_tail a_next a_skip a_last a_whole a_edges a_covers a_weighs a_numbers a_takes a_takenAt) Hz → va_D Az (wM cI cZ cJ ad x_thrown x_buffered x_given x_isFolding x_work x_rebuilt x_streamed y0 x_gapFrom x_gapSize x_elements x_wholeSize x_isLaid x_takenMany a_buffer a_length a_bytes a_weight a_live a_size a_list a_moved a_planned a_stream y1 y2 a_starts a_keywordAt a_element a_long1 a_head a_tail a_next a_skip a_last a_whole a_edges a_covers a_weighs a_numbers a_takes a_takenAt) → va_S Az s.heap Hz lz → ∀ ls : Array Slot, lv_has ls 4 [] → W p l e (headSpec wsX8_reports rm_X8_reports).room s m args below meth c Hz lz 0 0 (MQ below (QW D vwCl none wz Az) args s 0 0 Az) (F0 m 105 ls [])) → W p l e (headSpec wsX8_reports rm_X8_reports).room s m args below meth c Hz lz 0 0 (MQ below (QW D vwCl none wz Az) args s 0 0 Az) (F0 m 3 ls []) := by
    intro fu
    induction fu with
    | zero => intro x_reports a_reportedEnd a_reportedKeyword l1 l2 y0 y1 y2 hs; cases hs
    | succ fu ih =>
      intro x_reports a_reportedEnd a_reportedKeyword l1 l2 y0 y1 y2 hs Hz lz hP hD hSz ls hl kx
      rw [s_X8_reports_3_s] at hs
      refine lv_iload_n hx hb dX8_reports_3 rfl (lv_at hl 2 rfl) ?_
      refine k_if_le (tgt := 105) hx hb hs dX8_reports_4 (by decide) (fun hs => ?_) (fun hs => ?_)
      · refine k_iconst (n := 0) hx hb dX8_reports_7 ?_
        refine lv_istore_n (lv' := [(3, .int (iI 0)), (0, .ref (ad 0)), (1, .int (iI l1)), (2, .int (iI l2))]) hx hb dX8_reports_8 rfl hl (by decide) rfl (fun ls hl => ?_)
        obtain ⟨ez4, ez5, ez6, hq, hs⟩ := bd3_some hs
        refine Lz9 FU x_reports a_reportedEnd a_reportedKeyword l1 l2 0 ez4 ez5 ez6 hq Hz lz hP hD hSz ls (lv_sub hl [1, 2, 3, 0] rfl) ?_
        intro Hz lz hP hD hSz ls hl
        refine k_iinc (x := l2) (k := 2) (lv' := [(2, .int (iI (l2 + (-1)))), (0, .ref (ad 0)), (1, .int (iI l1))]) hx hb dX8_reports_99 hl rfl (by decide) rfl (fun ls hl => ?_)
        refine lv_goto (tgt := 3) hx hb dX8_reports_102 (by decide) ?_
        exact ih ez4 ez5 ez6 l1 (l2 + (-1)) y0 y1 y2 hs Hz lz hP hD hSz ls (lv_sub hl [1, 2, 0] rfl) kx
      · cases hs
        exact kx Hz lz hP hD hSz ls (lv_sub hl [] rfl)
  refine (?_ : ∀ (Hz : Heap) (lz : List Loc), va_P D vwCl (wM cI cZ cJ ad x_thrown x_buffered x_given x_isFolding x_work x_rebuilt x_streamed x_reports x_gapFrom x_gapSize x_elements x_wholeSize x_isLaid x_takenMany a_buffer a_length a_bytes a_weight a_live a_size a_list a_moved a_planned a_stream a_reportedEnd a_reportedKeyword a_starts a_keywordAt a_element a_long1 a_head a_tail a_next a_skip a_last a_whole a_edges a_covers a_weighs a_numbers a_takes a_takenAt) Hz → va_D Az (wM cI cZ cJ ad x_thrown x_buffered x_given x_isFolding x_work x_rebuilt x_streamed x_reports x_gapFrom x_gapSize x_elements x_wholeSize x_isLaid x_takenMany a_buffer a_length a_bytes a_weight a_live a_size a_list a_moved a_planned a_stream a_reportedEnd a_reportedKeyword a_starts a_keywordAt a_element a_long1 a_head a_tail a_next a_skip a_last a_whole a_edges a_covers a_weighs a_numbers a_takes a_takenAt) → va_S Az s.heap Hz lz → W p l e (headSpec wsX8_reports rm_X8_reports).room s m args below meth c Hz lz 0 0 (MQ below (QW D vwCl none wz Az) args s 0 0 Az) (F0 m 0 ls [])) s.heap [] hP hD hSz
  intro Hz lz hP hD hSz
  refine k_bipush (n := 16) hx hb (by decide) dX8_reports_0 ?_
  refine lv_istore_n (lv' := [(2, .int (iI 16)), (0, .ref (ad 0)), (1, .int (iI pz1))]) hx hb dX8_reports_2 rfl hl (by decide) rfl (fun ls hl => ?_)
  obtain ⟨ez7, ez8, ez9, hq, hs⟩ := bd3_some hs
  refine Lz3 FU x_reports a_reportedEnd a_reportedKeyword pz1 16 ez7 ez8 ez9 hq Hz lz hP hD hSz ls (lv_sub hl [1, 2, 0] rfl) ?_
  intro Hz lz hP hD hSz ls hl
  cases hs
  exact k_vret_w hx hb hr hlk (by rw [hw1]; exact hP) hSz dX8_reports_105 rfl
/-! X8_scan -/
noncomputable def s_X8_scan_49 (fu : Nat) : Int → Int → Int → Int → (Int → Int) → (Int → Int) → (Int → Int) → (Int → Int) → (Int → Int) → (Int → Int) → (Int → Int) → Int → Int → Int → Option (Int × Int × (Int → Int) × (Int → Int) × (Int → Int)) := Nat.rec (motive := fun _ => Int → Int → Int → Int → (Int → Int) → (Int → Int) → (Int → Int) → (Int → Int) → (Int → Int) → (Int → Int) → (Int → Int) → Int → Int → Int → Option (Int × Int × (Int → Int) × (Int → Int) × (Int → Int))) (fun _ _ _ _ _ _ _ _ _ _ _ _ _ _ => none) (fun _ ih x_given x_isFolding x_streamed x_reports a_buffer a_length a_bytes a_live a_stream a_reportedEnd a_reportedKeyword l1 l2 l3 => cLt l3 l1 ((rdA a_buffer 200 l3).bind (fun vz2 => cN 600 x_streamed (bd3 (s_X8_reports x_given x_isFolding (x_streamed + 1) x_reports a_length a_bytes a_live (upA a_stream x_streamed vz2) a_reportedEnd a_reportedKeyword ((x_streamed + 1) - 1)) (fun vz3 vz4 vz5 => ih x_given x_isFolding (x_streamed + 1) vz3 a_buffer a_length a_bytes a_live (upA a_stream x_streamed vz2) vz4 vz5 l1 l2 (l3 + 1))))) (some (x_streamed, x_reports, a_stream, a_reportedEnd, a_reportedKeyword))) fu
theorem s_X8_scan_49_s (fu : Nat) (x_given : Int) (x_isFolding : Int) (x_streamed : Int) (x_reports : Int) (a_buffer : (Int → Int)) (a_length : (Int → Int)) (a_bytes : (Int → Int)) (a_live : (Int → Int)) (a_stream : (Int → Int)) (a_reportedEnd : (Int → Int)) (a_reportedKeyword : (Int → Int)) (l1 : Int) (l2 : Int) (l3 : Int) : s_X8_scan_49 (fu + 1) x_given x_isFolding x_streamed x_reports a_buffer a_length a_bytes a_live a_stream a_reportedEnd a_reportedKeyword l1 l2 l3 = (cLt l3 l1 ((rdA a_buffer 200 l3).bind (fun vz2 => cN 600 x_streamed (bd3 (s_X8_reports x_given x_isFolding (x_streamed + 1) x_reports a_length a_bytes a_live (upA a_stream x_streamed vz2) a_reportedEnd a_reportedKeyword ((x_streamed + 1) - 1)) (fun vz3 vz4 vz5 => (s_X8_scan_49 fu) x_given x_isFolding (x_streamed + 1) vz3 a_buffer a_length a_bytes a_live (upA a_stream x_streamed vz2) vz4 vz5 l1 l2 (l3 + 1))))) (some (x_streamed, x_reports, a_stream, a_reportedEnd, a_reportedKeyword))) := rfl
theorem s_X8_scan_49_z (x_given : Int) (x_isFolding : Int) (x_streamed : Int) (x_reports : Int) (a_buffer : (Int → Int)) (a_length : (Int → Int)) (a_bytes : (Int → Int)) (a_live : (Int → Int)) (a_stream : (Int → Int)) (a_reportedEnd : (Int → Int)) (a_reportedKeyword : (Int → Int)) (l1 : Int) (l2 : Int) (l3 : Int) : s_X8_scan_49 0 x_given x_isFolding x_streamed x_reports a_buffer a_length a_bytes a_live a_stream a_reportedEnd a_reportedKeyword l1 l2 l3 = none := rfl
noncomputable def s_X8_scan (x_thrown : Int) (x_buffered : Int) (x_given : Int) (x_isFolding : Int) (x_streamed : Int) (x_reports : Int) (a_buffer : (Int → Int)) (a_length : (Int → Int)) (a_bytes : (Int → Int)) (a_live : (Int → Int)) (a_stream : (Int → Int)) (a_reportedEnd : (Int → Int)) (a_reportedKeyword : (Int → Int)) (pz1 : Int) : Option (Int × Int × Int × Int × Int × (Int → Int) × (Int → Int) × (Int → Int)) := cR pz1 (cR x_buffered (bd1 (s_X8_isIn pz1 0 x_buffered) (fun vz1 => cEq vz1 0 (some ((-3), 0, x_buffered, x_streamed, x_reports, a_stream, a_reportedEnd, a_reportedKeyword)) (cLt 600 (x_streamed + pz1) (some ((-6), 0, 0, x_streamed, x_reports, a_stream, a_reportedEnd, a_reportedKeyword)) (bd5 (s_X8_scan_49 FU x_given x_isFolding x_streamed x_reports a_buffer a_length a_bytes a_live a_stream a_reportedEnd a_reportedKeyword pz1 x_reports 0) (fun ez6 ez7 ez8 ez9 ez10 => some ((ez7 - x_reports), 0, 0, ez6, ez7, ez8, ez9, ez10)))))))
def rm_X8_scan : Room := { frames := 5, cells := 0, slots := 0, locals := 115 }
set_option maxHeartbeats 4000000 in
set_option maxRecDepth 100000 in
theorem c_X8_scan (l : Launch) (D : va_G) (cI cZ cJ : ClassId) {ad : Nat → Nat} {x_thrown : Int} {x_buffered : Int} {x_given : Int} {x_isFolding : Int} {x_work : Int} {x_rebuilt : Int} {x_streamed : Int} {x_reports : Int} {x_gapFrom : Int} {x_gapSize : Int} {x_elements : Int} {x_wholeSize : Int} {x_isLaid : Int} {x_takenMany : Int} {a_buffer : (Int → Int)} {a_length : (Int → Int)} {a_bytes : (Int → Int)} {a_weight : (Int → Int)} {a_live : (Int → Int)} {a_size : (Int → Int)} {a_list : (Int → Int)} {a_moved : (Int → Int)} {a_planned : (Int → Int)} {a_stream : (Int → Int)} {a_reportedEnd : (Int → Int)} {a_reportedKeyword : (Int → Int)} {a_starts : (Int → Int)} {a_keywordAt : (Int → Int)} {a_element : (Int → Int)} {a_long1 : (Int → Int)} {a_head : (Int → Int)} {a_tail : (Int → Int)} {a_next : (Int → Int)} {a_skip : (Int → Int)} {a_last : (Int → Int)} {a_whole : (Int → Int)} {a_edges : (Int → Int)} {a_covers : (Int → Int)} {a_weighs : (Int → Int)} {a_numbers : (Int → Int)} {a_takes : (Int → Int)} {a_takenAt : (Int → Int)} {pz1 : Int} {r : Int} {y_x_thrown : Int} {y_x_buffered : Int} {y_x_streamed : Int} {y_x_reports : Int} {y_a_stream : (Int → Int)} {y_a_reportedEnd : (Int → Int)} {y_a_reportedKeyword : (Int → Int)} {sz : Nat} (hs : s_X8_scan x_thrown x_buffered x_given x_isFolding x_streamed x_reports a_buffer a_length a_bytes a_live a_stream a_reportedEnd a_reportedKeyword pz1 = some (r, y_x_thrown, y_x_buffered, y_x_streamed, y_x_reports, y_a_stream, y_a_reportedEnd, y_a_reportedKeyword)) : Met l yX8_scan wsX8_scan rm_X8_scan (PW D vwCl [(cI, .int), (cZ, .boolean), (cJ, .long)] [.ref (ad 0), .int (iI pz1)] (wM cI cZ cJ ad x_thrown x_buffered x_given x_isFolding x_work x_rebuilt x_streamed x_reports x_gapFrom x_gapSize x_elements x_wholeSize x_isLaid x_takenMany a_buffer a_length a_bytes a_weight a_live a_size a_list a_moved a_planned a_stream a_reportedEnd a_reportedKeyword a_starts a_keywordAt a_element a_long1 a_head a_tail a_next a_skip a_last a_whole a_edges a_covers a_weighs a_numbers a_takes a_takenAt) sz) (QW D vwCl (some (.int (iI r))) (wM cI cZ cJ ad y_x_thrown y_x_buffered x_given x_isFolding x_work x_rebuilt y_x_streamed y_x_reports x_gapFrom x_gapSize x_elements x_wholeSize x_isLaid x_takenMany a_buffer a_length a_bytes a_weight a_live a_size a_list a_moved a_planned y_a_stream y_a_reportedEnd y_a_reportedKeyword a_starts a_keywordAt a_element a_long1 a_head a_tail a_next a_skip a_last a_whole a_edges a_covers a_weighs a_numbers a_takes a_takenAt) (va_A (wM cI cZ cJ ad x_thrown x_buffered x_given x_isFolding x_work x_rebuilt x_streamed x_reports x_gapFrom x_gapSize x_elements x_wholeSize x_isLaid x_takenMany a_buffer a_length a_bytes a_weight a_live a_size a_list a_moved a_planned a_stream a_reportedEnd a_reportedKeyword a_starts a_keywordAt a_element a_long1 a_head a_tail a_next a_skip a_last a_whole a_edges a_covers a_weighs a_numbers a_takes a_takenAt) sz)) 0 0 (va_A (wM cI cZ cJ ad x_thrown x_buffered x_given x_isFolding x_work x_rebuilt x_streamed x_reports x_gapFrom x_gapSize x_elements x_wholeSize x_isLaid x_takenMany a_buffer a_length a_bytes a_weight a_live a_size a_list a_moved a_planned a_stream a_reportedEnd a_reportedKeyword a_starts a_keywordAt a_element a_long1 a_head a_tail a_next a_skip a_last a_whole a_edges a_covers a_weighs a_numbers a_takes a_takenAt) sz) := by
  refine Met.ofW (cc := cX8_scan) (maxL := 4) (ret := (some .int)) (by decide) rfl ?_
  intro p e s m args below meth c s₁ B hml hv
  obtain ⟨hav, hsz, hP, hK, hD0⟩ := hv
  have hx := B.exec
  have hb := B.bytes
  have hr := B.returns
  have hts := atoms_spec (ws := wsX8_scan) B.pre
  have hown : s.vm.findClass RX8 = some m.cls := findClass_of_methodNamed B.named
  have hlk := B.notSynchronized
  have hf1 : (Cond.fieldLink RX8 1 "KeywordMatcherModel" "thrown" "I").before args s = true := hts _ (List.mem_of_getElem? (i := 1) rfl)
  have hiX8 : ∀ w ∈ wsX80, w ∈ wsX8_scan := fun w h => List.mem_cons_of_mem _ (List.mem_append_right _ h)
  have hf99 : (Cond.fieldLink RX8 99 "KeywordMatcherModel" "buffered" "I").before args s = true := hts _ (List.mem_of_getElem? (i := 2) rfl)
  have hf170 : (Cond.fieldLink RX8 170 "KeywordMatcherModel" "streamed" "I").before args s = true := hts _ (List.mem_of_getElem? (i := 3) rfl)
  have hf200 : (Cond.fieldLink RX8 200 "KeywordMatcherModel" "reports" "I").before args s = true := hts _ (List.mem_of_getElem? (i := 4) rfl)
  have hf42 : (Cond.fieldLink RX8 42 "KeywordMatcherModel" "stream" "[I").before args s = true := hts _ (List.mem_of_getElem? (i := 5) rfl)
  have hf13 : (Cond.fieldLink RX8 13 "KeywordMatcherModel" "buffer" "[I").before args s = true := hts _ (List.mem_of_getElem? (i := 6) rfl)
  subst hsz
  have hD := hD0.self (sz := s.heap.size)
  generalize hAe : va_A (wM cI cZ cJ ad x_thrown x_buffered x_given x_isFolding x_work x_rebuilt x_streamed x_reports x_gapFrom x_gapSize x_elements x_wholeSize x_isLaid x_takenMany a_buffer a_length a_bytes a_weight a_live a_size a_list a_moved a_planned a_stream a_reportedEnd a_reportedKeyword a_starts a_keywordAt a_element a_long1 a_head a_tail a_next a_skip a_last a_whole a_edges a_covers a_weighs a_numbers a_takes a_takenAt) s.heap.size = Az at hD ⊢
  have hA : ∀ q : Nat, s.heap.size ≤ q → Az q := fun q h => by rw [← hAe]; exact Or.inr h
  clear hAe
  have hSz : va_S Az s.heap s.heap [] := va_S.rf
  obtain ⟨wz, hw1⟩ : ∃ z : va_W, z = (wM cI cZ cJ ad y_x_thrown y_x_buffered x_given x_isFolding x_work x_rebuilt y_x_streamed y_x_reports x_gapFrom x_gapSize x_elements x_wholeSize x_isLaid x_takenMany a_buffer a_length a_bytes a_weight a_live a_size a_list a_moved a_planned y_a_stream y_a_reportedEnd y_a_reportedKeyword a_starts a_keywordAt a_element a_long1 a_head a_tail a_next a_skip a_last a_whole a_edges a_covers a_weighs a_numbers a_takes a_takenAt) := ⟨_, rfl⟩
  rw [← hw1]
  have hl := lv_entry ([.ref (ad 0), .int (iI pz1)]) (n := 4) (Nat.le_of_ble_eq_true rfl)
  rw [show entryFrame m args 4 = entryFrame m ([.ref (ad 0), .int (iI pz1)] : List Value).toArray 4 from by rw [hav], lg_entry_eq]
  generalize (lg_sl ([.ref (ad 0), .int (iI pz1)]) ++ List.replicate (4 - (lg_sl ([.ref (ad 0), .int (iI pz1)])).length) Slot.unset).toArray = ls at hl ⊢
  have hl : lv_has ls 4 [(0, .ref (ad 0)), (1, .int (iI pz1))] := hl
  unfold s_X8_scan at hs
  have Lz49 : ∀ (fu : Nat) (x_thrown : Int) (x_buffered : Int) (x_streamed : Int) (x_reports : Int) (a_stream : (Int → Int)) (a_reportedEnd : (Int → Int)) (a_reportedKeyword : (Int → Int)) (l1 : Int) (l2 : Int) (l3 : Int) (y0 : Int) (y1 : Int) (y2 : (Int → Int)) (y3 : (Int → Int)) (y4 : (Int → Int)), s_X8_scan_49 fu x_given x_isFolding x_streamed x_reports a_buffer a_length a_bytes a_live a_stream a_reportedEnd a_reportedKeyword l1 l2 l3 = some (y0, y1, y2, y3, y4) → ∀ (Hz : Heap) (lz : List Loc), va_P D vwCl (wM cI cZ cJ ad x_thrown x_buffered x_given x_isFolding x_work x_rebuilt x_streamed x_reports x_gapFrom x_gapSize x_elements x_wholeSize x_isLaid x_takenMany a_buffer a_length a_bytes a_weight a_live a_size a_list a_moved a_planned a_stream a_reportedEnd a_reportedKeyword a_starts a_keywordAt a_element a_long1 a_head a_tail a_next a_skip a_last a_whole a_edges a_covers a_weighs a_numbers a_takes a_takenAt) Hz → va_D Az (wM cI cZ cJ ad x_thrown x_buffered x_given x_isFolding x_work x_rebuilt x_streamed x_reports x_gapFrom x_gapSize x_elements x_wholeSize x_isLaid x_takenMany a_buffer a_length a_bytes a_weight a_live a_size a_list a_moved a_planned a_stream a_reportedEnd a_reportedKeyword a_starts a_keywordAt a_element a_long1 a_head a_tail a_next a_skip a_last a_whole a_edges a_covers a_weighs a_numbers a_takes a_takenAt) → va_S Az s.heap Hz lz → ∀ ls : Array Slot, lv_has ls 4 [(0, .ref (ad 0)), (1, .int (iI l1)), (2, .int (iI l2)), (3, .int (iI l3))] → (∀ (Hz : Heap) (lz : List Loc), va_P D vwCl (wM cI cZ cJ ad x_thrown x_buffered x_given x_isFolding x_work x_rebuilt y0 y1 x_gapFrom x_gapSize x_elements x_wholeSize x_isLaid x_takenMany a_buffer a_length a_bytes a_weight a_live a_size a_list a_moved a_planned y2 y3 y4 a_starts a_keywordAt a_element a_long1 a_head a_tail a_next a_skip a_last a_whole a_edges a_covers a_weighs a_numbers a_takes a_takenAt) Hz → va_D Az (wM cI cZ cJ ad x_thrown x_buffered x_given x_isFolding x_work x_rebuilt y0 y1 x_gapFrom x_gapSize x_elements x_wholeSize x_isLaid x_takenMany a_buffer a_length a_bytes a_weight a_live a_size a_list a_moved a_planned y2 y3 y4 a_starts a_keywordAt a_element a_long1 a_head a_tail a_next a_skip a_last a_whole a_edges a_covers a_weighs a_numbers a_takes a_takenAt) → va_S Az s.heap Hz lz → ∀ ls : Array Slot, lv_has ls 4 [(0, .ref (ad 0)), (2, .int (iI l2))] → W p l e (headSpec wsX8_scan rm_X8_scan).room s m args below meth c Hz lz 0 0 (MQ below (QW D vwCl (some (.int (iI r))) wz Az) args s 0 0 Az) (F0 m 95 ls [])) → W p l e (headSpec wsX8_scan rm_X8_scan).room s m args below meth c Hz lz 0 0 (MQ below (QW D vwCl (some (.int (iI r))) wz Az) args s 0 0 Az) (F0 m 49 ls []) := by
    intro fu
    induction fu with
    | zero => intro x_thrown x_buffered x_streamed x_reports a_stream a_reportedEnd a_reportedKeyword l1 l2 l3 y0 y1 y2 y3 y4 hs; cases hs
    | succ fu ih =>
      intro x_thrown x_buffered x_streamed x_reports a_stream a_reportedEnd a_reportedKeyword l1 l2 l3 y0 y1 y2 y3 y4 hs Hz lz hP hD hSz ls hl kx
      rw [s_X8_scan_49_s] at hs
      refine lv_iload_n hx hb dX8_scan_49 rfl (lv_at hl 3 rfl) ?_
      refine lv_iload_n hx hb dX8_scan_50 rfl (lv_at hl 1 rfl) ?_
      refine k_icmp_ge (tgt := 95) hx hb hs dX8_scan_51 (by decide) (fun hs => ?_) (fun hs => ?_)
      · refine lv_aload_n hx hb dX8_scan_54 rfl (lv_at hl 0 rfl) ?_
        refine va_get (ci := 8) (v := .ref (ad 10)) (C := RX8) (T := TX8) (N := 42) hx hb hts hiX8 hown hK hP 0 rfl rfl 15 (by decide) hf42 (fun _ h9 => h9) rfl dX8_scan_55 ?_
        refine lv_aload_n hx hb dX8_scan_58 rfl (lv_at hl 0 rfl) ?_
        refine va_get (ci := 8) (v := .int (iI x_streamed)) (C := RX8) (T := TX8) (N := 42) hx hb hts hiX8 hown hK hP 0 rfl rfl 18 (by decide) hf170 (fun _ h9 => h9) rfl dX8_scan_59 ?_
        refine lv_aload_n hx hb dX8_scan_62 rfl (lv_at hl 0 rfl) ?_
        refine va_get (ci := 8) (v := .ref (ad 1)) (C := RX8) (T := TX8) (N := 42) hx hb hts hiX8 hown hK hP 0 rfl rfl 1 (by decide) hf13 (fun _ h9 => h9) rfl dX8_scan_63 ?_
        refine lv_iload_n hx hb dX8_scan_66 rfl (lv_at hl 3 rfl) ?_
        refine k_iald hx hb hK hP 1 0 rfl rfl (Nat.le_of_ble_eq_true rfl) hs dX8_scan_67 (fun vz2 hs => ?_)
        refine k_iast hx hb hK hP hD hSz 10 0 rfl rfl (Nat.le_of_ble_eq_true rfl) hs dX8_scan_68 (fun Hz lz hP hD hSz hs => ?_)
        have hP : va_P D vwCl (wM cI cZ cJ ad x_thrown x_buffered x_given x_isFolding x_work x_rebuilt x_streamed x_reports x_gapFrom x_gapSize x_elements x_wholeSize x_isLaid x_takenMany a_buffer a_length a_bytes a_weight a_live a_size a_list a_moved a_planned (upA a_stream x_streamed vz2) a_reportedEnd a_reportedKeyword a_starts a_keywordAt a_element a_long1 a_head a_tail a_next a_skip a_last a_whole a_edges a_covers a_weighs a_numbers a_takes a_takenAt) Hz := hP
        have hD : va_D Az (wM cI cZ cJ ad x_thrown x_buffered x_given x_isFolding x_work x_rebuilt x_streamed x_reports x_gapFrom x_gapSize x_elements x_wholeSize x_isLaid x_takenMany a_buffer a_length a_bytes a_weight a_live a_size a_list a_moved a_planned (upA a_stream x_streamed vz2) a_reportedEnd a_reportedKeyword a_starts a_keywordAt a_element a_long1 a_head a_tail a_next a_skip a_last a_whole a_edges a_covers a_weighs a_numbers a_takes a_takenAt) := hD
        refine lv_aload_n hx hb dX8_scan_69 rfl (lv_at hl 0 rfl) ?_
        refine lv_dup hx hb dX8_scan_70 rfl ?_
        refine va_get (ci := 8) (v := .int (iI x_streamed)) (C := RX8) (T := TX8) (N := 42) hx hb hts hiX8 hown hK hP 0 rfl rfl 18 (by decide) hf170 (fun _ h9 => h9) rfl dX8_scan_71 ?_
        refine k_iconst (n := 1) hx hb dX8_scan_74 ?_
        refine k_iadd hx hb dX8_scan_75 ?_
        refine va_put (ci := 8) (v := .int (iI (x_streamed + 1))) (ty := .int) (C := RX8) (T := TX8) (N := 42) hx hb hts hiX8 tyX8 tyX8_ok nmX8 hown hK hP hD hSz 0 rfl rfl 18 (by decide) hf170 (fun _ h9 => h9) rfl (by decide +kernel) rfl rfl (Nat.le_of_ble_eq_true rfl) dX8_scan_76 (fun Hz lz hP hD hSz => ?_)
        have hP : va_P D vwCl (wM cI cZ cJ ad x_thrown x_buffered x_given x_isFolding x_work x_rebuilt (x_streamed + 1) x_reports x_gapFrom x_gapSize x_elements x_wholeSize x_isLaid x_takenMany a_buffer a_length a_bytes a_weight a_live a_size a_list a_moved a_planned (upA a_stream x_streamed vz2) a_reportedEnd a_reportedKeyword a_starts a_keywordAt a_element a_long1 a_head a_tail a_next a_skip a_last a_whole a_edges a_covers a_weighs a_numbers a_takes a_takenAt) Hz := hP
        have hD : va_D Az (wM cI cZ cJ ad x_thrown x_buffered x_given x_isFolding x_work x_rebuilt (x_streamed + 1) x_reports x_gapFrom x_gapSize x_elements x_wholeSize x_isLaid x_takenMany a_buffer a_length a_bytes a_weight a_live a_size a_list a_moved a_planned (upA a_stream x_streamed vz2) a_reportedEnd a_reportedKeyword a_starts a_keywordAt a_element a_long1 a_head a_tail a_next a_skip a_last a_whole a_edges a_covers a_weighs a_numbers a_takes a_takenAt) := hD
        refine lv_aload_n hx hb dX8_scan_79 rfl (lv_at hl 0 rfl) ?_
        refine lv_aload_n hx hb dX8_scan_80 rfl (lv_at hl 0 rfl) ?_
        refine va_get (ci := 8) (v := .int (iI (x_streamed + 1))) (C := RX8) (T := TX8) (N := 42) hx hb hts hiX8 hown hK hP 0 rfl rfl 18 (by decide) hf170 (fun _ h9 => h9) rfl dX8_scan_81 ?_
        refine k_iconst (n := 1) hx hb dX8_scan_84 ?_
        refine k_isub hx hb dX8_scan_85 ?_
        obtain ⟨vz3, vz4, vz5, hcz, hs⟩ := bd3_some hs
        refine k_wVs (As := [.int (iI ((x_streamed + 1) - 1))]) (rest := []) (st1 := []) (w1 := (wM cI cZ cJ ad x_thrown x_buffered x_given x_isFolding x_work x_rebuilt (x_streamed + 1) vz3 x_gapFrom x_gapSize x_elements x_wholeSize x_isLaid x_takenMany a_buffer a_length a_bytes a_weight a_live a_size a_list a_moved a_planned (upA a_stream x_streamed vz2) vz4 vz5 a_starts a_keywordAt a_element a_long1 a_head a_tail a_next a_skip a_last a_whole a_edges a_covers a_weighs a_numbers a_takes a_takenAt)) ⟨hx, hb, hml, hown, hts⟩ hK hP hD hSz hA (c_X8_reports l D cI cZ cJ hcz) (cwV 1 hts gX8_scan_X8_reports rfl rfl rfl (by decide +kernel) ⟨Nat.le_of_ble_eq_true rfl, Nat.le_of_ble_eq_true rfl⟩) 0 rfl rfl rfl rfl rfl hl.1 rfl (lv_room (Nat.le_of_ble_eq_true rfl)) dX8_scan_86 ⟨Nat.zero_le _, Nat.zero_le _⟩ rfl (fun Hz lz hP hD hSz => ?_)
        have hP : va_P D vwCl (wM cI cZ cJ ad x_thrown x_buffered x_given x_isFolding x_work x_rebuilt (x_streamed + 1) vz3 x_gapFrom x_gapSize x_elements x_wholeSize x_isLaid x_takenMany a_buffer a_length a_bytes a_weight a_live a_size a_list a_moved a_planned (upA a_stream x_streamed vz2) vz4 vz5 a_starts a_keywordAt a_element a_long1 a_head a_tail a_next a_skip a_last a_whole a_edges a_covers a_weighs a_numbers a_takes a_takenAt) Hz := hP
        have hD : va_D Az (wM cI cZ cJ ad x_thrown x_buffered x_given x_isFolding x_work x_rebuilt (x_streamed + 1) vz3 x_gapFrom x_gapSize x_elements x_wholeSize x_isLaid x_takenMany a_buffer a_length a_bytes a_weight a_live a_size a_list a_moved a_planned (upA a_stream x_streamed vz2) vz4 vz5 a_starts a_keywordAt a_element a_long1 a_head a_tail a_next a_skip a_last a_whole a_edges a_covers a_weighs a_numbers a_takes a_takenAt) := hD
        refine k_iinc (x := l3) (k := 3) (lv' := [(3, .int (iI (l3 + 1))), (0, .ref (ad 0)), (1, .int (iI l1)), (2, .int (iI l2))]) hx hb dX8_scan_89 hl rfl (by decide) rfl (fun ls hl => ?_)
        refine lv_goto (tgt := 49) hx hb dX8_scan_92 (by decide) ?_
        exact ih x_thrown x_buffered (x_streamed + 1) vz3 (upA a_stream x_streamed vz2) vz4 vz5 l1 l2 (l3 + 1) y0 y1 y2 y3 y4 hs Hz lz hP hD hSz ls (lv_sub hl [1, 2, 3, 0] rfl) kx
      · cases hs
        exact kx Hz lz hP hD hSz ls (lv_sub hl [0, 2] rfl)
  refine (?_ : ∀ (Hz : Heap) (lz : List Loc), va_P D vwCl (wM cI cZ cJ ad x_thrown x_buffered x_given x_isFolding x_work x_rebuilt x_streamed x_reports x_gapFrom x_gapSize x_elements x_wholeSize x_isLaid x_takenMany a_buffer a_length a_bytes a_weight a_live a_size a_list a_moved a_planned a_stream a_reportedEnd a_reportedKeyword a_starts a_keywordAt a_element a_long1 a_head a_tail a_next a_skip a_last a_whole a_edges a_covers a_weighs a_numbers a_takes a_takenAt) Hz → va_D Az (wM cI cZ cJ ad x_thrown x_buffered x_given x_isFolding x_work x_rebuilt x_streamed x_reports x_gapFrom x_gapSize x_elements x_wholeSize x_isLaid x_takenMany a_buffer a_length a_bytes a_weight a_live a_size a_list a_moved a_planned a_stream a_reportedEnd a_reportedKeyword a_starts a_keywordAt a_element a_long1 a_head a_tail a_next a_skip a_last a_whole a_edges a_covers a_weighs a_numbers a_takes a_takenAt) → va_S Az s.heap Hz lz → W p l e (headSpec wsX8_scan rm_X8_scan).room s m args below meth c Hz lz 0 0 (MQ below (QW D vwCl (some (.int (iI r))) wz Az) args s 0 0 Az) (F0 m 0 ls [])) s.heap [] hP hD hSz
  intro Hz lz hP hD hSz
  refine lv_aload_n hx hb dX8_scan_0 rfl (lv_at hl 0 rfl) ?_
  refine k_iconst (n := 0) hx hb dX8_scan_1 ?_
  refine va_put (ci := 8) (v := .int (iI 0)) (ty := .int) (C := RX8) (T := TX8) (N := 42) hx hb hts hiX8 tyX8 tyX8_ok nmX8 hown hK hP hD hSz 0 rfl rfl 0 (by decide) hf1 (fun _ h9 => h9) rfl (by decide +kernel) rfl rfl (Nat.le_of_ble_eq_true rfl) dX8_scan_2 (fun Hz lz hP hD hSz => ?_)
  have hP : va_P D vwCl (wM cI cZ cJ ad 0 x_buffered x_given x_isFolding x_work x_rebuilt x_streamed x_reports x_gapFrom x_gapSize x_elements x_wholeSize x_isLaid x_takenMany a_buffer a_length a_bytes a_weight a_live a_size a_list a_moved a_planned a_stream a_reportedEnd a_reportedKeyword a_starts a_keywordAt a_element a_long1 a_head a_tail a_next a_skip a_last a_whole a_edges a_covers a_weighs a_numbers a_takes a_takenAt) Hz := hP
  have hD : va_D Az (wM cI cZ cJ ad 0 x_buffered x_given x_isFolding x_work x_rebuilt x_streamed x_reports x_gapFrom x_gapSize x_elements x_wholeSize x_isLaid x_takenMany a_buffer a_length a_bytes a_weight a_live a_size a_list a_moved a_planned a_stream a_reportedEnd a_reportedKeyword a_starts a_keywordAt a_element a_long1 a_head a_tail a_next a_skip a_last a_whole a_edges a_covers a_weighs a_numbers a_takes a_takenAt) := hD
  refine lv_iload_n hx hb dX8_scan_5 rfl (lv_at hl 1 rfl) ?_
  refine k_i2l hx hb hs dX8_scan_6 (fun hs => ?_)
  refine k_lconst (v := 0) hx hb (by decide) dX8_scan_7 ?_
  refine lv_aload_n hx hb dX8_scan_8 rfl (lv_at hl 0 rfl) ?_
  refine va_get (ci := 8) (v := .int (iI x_buffered)) (C := RX8) (T := TX8) (N := 42) hx hb hts hiX8 hown hK hP 0 rfl rfl 2 (by decide) hf99 (fun _ h9 => h9) rfl dX8_scan_9 ?_
  refine k_i2l hx hb hs dX8_scan_12 (fun hs => ?_)
  obtain ⟨vz1, hcz, hs⟩ := bd1_some hs
  refine k_rS (As := [.long (iL pz1), .long (iL 0), .long (iL x_buffered)]) (rest := []) (st1 := [.int (iI vz1)]) ⟨hx, hb, hml, hown, hts⟩ hK (va_P_nil (D := D) (cl := vwCl)) (c_X8_isIn l D cI cZ cJ hcz) (va_cwS 3 hts gX8_scan_X8_isIn rfl rfl rfl (by decide +kernel) ⟨Nat.le_of_ble_eq_true rfl, Nat.le_of_ble_eq_true rfl⟩) rfl hl.1 rfl (lv_room (Nat.le_of_ble_eq_true rfl)) dX8_scan_13 ⟨Nat.zero_le _, Nat.zero_le _⟩ rfl ?_
  refine k_if_ne (tgt := 22) hx hb hs dX8_scan_16 (by decide) (fun hs => ?_) (fun hs => ?_)
  · refine k_bipush (n := (-3)) hx hb (by decide) dX8_scan_19 ?_
    cases hs
    exact k_iret_w hx hb hr hlk (by rw [hw1]; exact hP) hSz dX8_scan_21 rfl
  · refine lv_aload_n hx hb dX8_scan_22 rfl (lv_at hl 0 rfl) ?_
    refine k_iconst (n := 0) hx hb dX8_scan_23 ?_
    refine va_put (ci := 8) (v := .int (iI 0)) (ty := .int) (C := RX8) (T := TX8) (N := 42) hx hb hts hiX8 tyX8 tyX8_ok nmX8 hown hK hP hD hSz 0 rfl rfl 2 (by decide) hf99 (fun _ h9 => h9) rfl (by decide +kernel) rfl rfl (Nat.le_of_ble_eq_true rfl) dX8_scan_24 (fun Hz lz hP hD hSz => ?_)
    have hP : va_P D vwCl (wM cI cZ cJ ad 0 0 x_given x_isFolding x_work x_rebuilt x_streamed x_reports x_gapFrom x_gapSize x_elements x_wholeSize x_isLaid x_takenMany a_buffer a_length a_bytes a_weight a_live a_size a_list a_moved a_planned a_stream a_reportedEnd a_reportedKeyword a_starts a_keywordAt a_element a_long1 a_head a_tail a_next a_skip a_last a_whole a_edges a_covers a_weighs a_numbers a_takes a_takenAt) Hz := hP
    have hD : va_D Az (wM cI cZ cJ ad 0 0 x_given x_isFolding x_work x_rebuilt x_streamed x_reports x_gapFrom x_gapSize x_elements x_wholeSize x_isLaid x_takenMany a_buffer a_length a_bytes a_weight a_live a_size a_list a_moved a_planned a_stream a_reportedEnd a_reportedKeyword a_starts a_keywordAt a_element a_long1 a_head a_tail a_next a_skip a_last a_whole a_edges a_covers a_weighs a_numbers a_takes a_takenAt) := hD
    refine lv_aload_n hx hb dX8_scan_27 rfl (lv_at hl 0 rfl) ?_
    refine va_get (ci := 8) (v := .int (iI x_streamed)) (C := RX8) (T := TX8) (N := 42) hx hb hts hiX8 hown hK hP 0 rfl rfl 18 (by decide) hf170 (fun _ h9 => h9) rfl dX8_scan_28 ?_
    refine lv_iload_n hx hb dX8_scan_31 rfl (lv_at hl 1 rfl) ?_
    refine k_iadd hx hb dX8_scan_32 ?_
    refine k_sipush (n := 600) hx hb (by decide) dX8_scan_33 ?_
    refine k_icmp_le (tgt := 42) hx hb hs dX8_scan_36 (by decide) (fun hs => ?_) (fun hs => ?_)
    · refine k_bipush (n := (-6)) hx hb (by decide) dX8_scan_39 ?_
      cases hs
      exact k_iret_w hx hb hr hlk (by rw [hw1]; exact hP) hSz dX8_scan_41 rfl
    · refine lv_aload_n hx hb dX8_scan_42 rfl (lv_at hl 0 rfl) ?_
      refine va_get (ci := 8) (v := .int (iI x_reports)) (C := RX8) (T := TX8) (N := 42) hx hb hts hiX8 hown hK hP 0 rfl rfl 19 (by decide) hf200 (fun _ h9 => h9) rfl dX8_scan_43 ?_
      refine lv_istore_n (lv' := [(2, .int (iI x_reports)), (0, .ref (ad 0)), (1, .int (iI pz1))]) hx hb dX8_scan_46 rfl hl (by decide) rfl (fun ls hl => ?_)
      refine k_iconst (n := 0) hx hb dX8_scan_47 ?_
      refine lv_istore_n (lv' := [(3, .int (iI 0)), (2, .int (iI x_reports)), (0, .ref (ad 0)), (1, .int (iI pz1))]) hx hb dX8_scan_48 rfl hl (by decide) rfl (fun ls hl => ?_)
      obtain ⟨ez6, ez7, ez8, ez9, ez10, hq, hs⟩ := bd5_some hs
      refine Lz49 FU 0 0 x_streamed x_reports a_stream a_reportedEnd a_reportedKeyword pz1 x_reports 0 ez6 ez7 ez8 ez9 ez10 hq Hz lz hP hD hSz ls (lv_sub hl [2, 3, 1, 0] rfl) ?_
      intro Hz lz hP hD hSz ls hl
      refine lv_aload_n hx hb dX8_scan_95 rfl (lv_at hl 0 rfl) ?_
      refine va_get (ci := 8) (v := .int (iI ez7)) (C := RX8) (T := TX8) (N := 42) hx hb hts hiX8 hown hK hP 0 rfl rfl 19 (by decide) hf200 (fun _ h9 => h9) rfl dX8_scan_96 ?_
      refine lv_iload_n hx hb dX8_scan_99 rfl (lv_at hl 1 rfl) ?_
      refine k_isub hx hb dX8_scan_100 ?_
      cases hs
      exact k_iret_w hx hb hr hlk (by rw [hw1]; exact hP) hSz dX8_scan_101 rfl
/-! X8_resetStream -/
noncomputable def s_X8_resetStream (x_thrown : Int) (x_streamed : Int) (x_reports : Int) : Option (Int × Int × Int × Int) := some (x_streamed, 0, 0, 0)
def rm_X8_resetStream : Room := { frames := 0, cells := 0, slots := 0, locals := 0 }
set_option maxHeartbeats 4000000 in
set_option maxRecDepth 100000 in
theorem c_X8_resetStream (l : Launch) (D : va_G) (cI cZ cJ : ClassId) {ad : Nat → Nat} {x_thrown : Int} {x_buffered : Int} {x_given : Int} {x_isFolding : Int} {x_work : Int} {x_rebuilt : Int} {x_streamed : Int} {x_reports : Int} {x_gapFrom : Int} {x_gapSize : Int} {x_elements : Int} {x_wholeSize : Int} {x_isLaid : Int} {x_takenMany : Int} {a_buffer : (Int → Int)} {a_length : (Int → Int)} {a_bytes : (Int → Int)} {a_weight : (Int → Int)} {a_live : (Int → Int)} {a_size : (Int → Int)} {a_list : (Int → Int)} {a_moved : (Int → Int)} {a_planned : (Int → Int)} {a_stream : (Int → Int)} {a_reportedEnd : (Int → Int)} {a_reportedKeyword : (Int → Int)} {a_starts : (Int → Int)} {a_keywordAt : (Int → Int)} {a_element : (Int → Int)} {a_long1 : (Int → Int)} {a_head : (Int → Int)} {a_tail : (Int → Int)} {a_next : (Int → Int)} {a_skip : (Int → Int)} {a_last : (Int → Int)} {a_whole : (Int → Int)} {a_edges : (Int → Int)} {a_covers : (Int → Int)} {a_weighs : (Int → Int)} {a_numbers : (Int → Int)} {a_takes : (Int → Int)} {a_takenAt : (Int → Int)} {r : Int} {y_x_thrown : Int} {y_x_streamed : Int} {y_x_reports : Int} {sz : Nat} (hs : s_X8_resetStream x_thrown x_streamed x_reports = some (r, y_x_thrown, y_x_streamed, y_x_reports)) : Met l yX8_resetStream wsX8_resetStream rm_X8_resetStream (PW D vwCl [(cI, .int), (cZ, .boolean), (cJ, .long)] [.ref (ad 0)] (wM cI cZ cJ ad x_thrown x_buffered x_given x_isFolding x_work x_rebuilt x_streamed x_reports x_gapFrom x_gapSize x_elements x_wholeSize x_isLaid x_takenMany a_buffer a_length a_bytes a_weight a_live a_size a_list a_moved a_planned a_stream a_reportedEnd a_reportedKeyword a_starts a_keywordAt a_element a_long1 a_head a_tail a_next a_skip a_last a_whole a_edges a_covers a_weighs a_numbers a_takes a_takenAt) sz) (QW D vwCl (some (.int (iI r))) (wM cI cZ cJ ad y_x_thrown x_buffered x_given x_isFolding x_work x_rebuilt y_x_streamed y_x_reports x_gapFrom x_gapSize x_elements x_wholeSize x_isLaid x_takenMany a_buffer a_length a_bytes a_weight a_live a_size a_list a_moved a_planned a_stream a_reportedEnd a_reportedKeyword a_starts a_keywordAt a_element a_long1 a_head a_tail a_next a_skip a_last a_whole a_edges a_covers a_weighs a_numbers a_takes a_takenAt) (va_A (wM cI cZ cJ ad x_thrown x_buffered x_given x_isFolding x_work x_rebuilt x_streamed x_reports x_gapFrom x_gapSize x_elements x_wholeSize x_isLaid x_takenMany a_buffer a_length a_bytes a_weight a_live a_size a_list a_moved a_planned a_stream a_reportedEnd a_reportedKeyword a_starts a_keywordAt a_element a_long1 a_head a_tail a_next a_skip a_last a_whole a_edges a_covers a_weighs a_numbers a_takes a_takenAt) sz)) 0 0 (va_A (wM cI cZ cJ ad x_thrown x_buffered x_given x_isFolding x_work x_rebuilt x_streamed x_reports x_gapFrom x_gapSize x_elements x_wholeSize x_isLaid x_takenMany a_buffer a_length a_bytes a_weight a_live a_size a_list a_moved a_planned a_stream a_reportedEnd a_reportedKeyword a_starts a_keywordAt a_element a_long1 a_head a_tail a_next a_skip a_last a_whole a_edges a_covers a_weighs a_numbers a_takes a_takenAt) sz) := by
  refine Met.ofW (cc := cX8_resetStream) (maxL := 2) (ret := (some .int)) (by decide) rfl ?_
  intro p e s m args below meth c s₁ B hml hv
  obtain ⟨hav, hsz, hP, hK, hD0⟩ := hv
  have hx := B.exec
  have hb := B.bytes
  have hr := B.returns
  have hts := atoms_spec (ws := wsX8_resetStream) B.pre
  have hown : s.vm.findClass RX8 = some m.cls := findClass_of_methodNamed B.named
  have hlk := B.notSynchronized
  have hf1 : (Cond.fieldLink RX8 1 "KeywordMatcherModel" "thrown" "I").before args s = true := hts _ (List.mem_of_getElem? (i := 1) rfl)
  have hiX8 : ∀ w ∈ wsX80, w ∈ wsX8_resetStream := fun w h => List.mem_cons_of_mem _ (List.mem_append_right _ h)
  have hf170 : (Cond.fieldLink RX8 170 "KeywordMatcherModel" "streamed" "I").before args s = true := hts _ (List.mem_of_getElem? (i := 2) rfl)
  have hf200 : (Cond.fieldLink RX8 200 "KeywordMatcherModel" "reports" "I").before args s = true := hts _ (List.mem_of_getElem? (i := 3) rfl)
  subst hsz
  have hD := hD0.self (sz := s.heap.size)
  generalize hAe : va_A (wM cI cZ cJ ad x_thrown x_buffered x_given x_isFolding x_work x_rebuilt x_streamed x_reports x_gapFrom x_gapSize x_elements x_wholeSize x_isLaid x_takenMany a_buffer a_length a_bytes a_weight a_live a_size a_list a_moved a_planned a_stream a_reportedEnd a_reportedKeyword a_starts a_keywordAt a_element a_long1 a_head a_tail a_next a_skip a_last a_whole a_edges a_covers a_weighs a_numbers a_takes a_takenAt) s.heap.size = Az at hD ⊢
  have hA : ∀ q : Nat, s.heap.size ≤ q → Az q := fun q h => by rw [← hAe]; exact Or.inr h
  clear hAe
  have hSz : va_S Az s.heap s.heap [] := va_S.rf
  obtain ⟨wz, hw1⟩ : ∃ z : va_W, z = (wM cI cZ cJ ad y_x_thrown x_buffered x_given x_isFolding x_work x_rebuilt y_x_streamed y_x_reports x_gapFrom x_gapSize x_elements x_wholeSize x_isLaid x_takenMany a_buffer a_length a_bytes a_weight a_live a_size a_list a_moved a_planned a_stream a_reportedEnd a_reportedKeyword a_starts a_keywordAt a_element a_long1 a_head a_tail a_next a_skip a_last a_whole a_edges a_covers a_weighs a_numbers a_takes a_takenAt) := ⟨_, rfl⟩
  rw [← hw1]
  have hl := lv_entry ([.ref (ad 0)]) (n := 2) (Nat.le_of_ble_eq_true rfl)
  rw [show entryFrame m args 2 = entryFrame m ([.ref (ad 0)] : List Value).toArray 2 from by rw [hav], lg_entry_eq]
  generalize (lg_sl ([.ref (ad 0)]) ++ List.replicate (2 - (lg_sl ([.ref (ad 0)])).length) Slot.unset).toArray = ls at hl ⊢
  have hl : lv_has ls 2 [(0, .ref (ad 0))] := hl
  unfold s_X8_resetStream at hs
  refine (?_ : ∀ (Hz : Heap) (lz : List Loc), va_P D vwCl (wM cI cZ cJ ad x_thrown x_buffered x_given x_isFolding x_work x_rebuilt x_streamed x_reports x_gapFrom x_gapSize x_elements x_wholeSize x_isLaid x_takenMany a_buffer a_length a_bytes a_weight a_live a_size a_list a_moved a_planned a_stream a_reportedEnd a_reportedKeyword a_starts a_keywordAt a_element a_long1 a_head a_tail a_next a_skip a_last a_whole a_edges a_covers a_weighs a_numbers a_takes a_takenAt) Hz → va_D Az (wM cI cZ cJ ad x_thrown x_buffered x_given x_isFolding x_work x_rebuilt x_streamed x_reports x_gapFrom x_gapSize x_elements x_wholeSize x_isLaid x_takenMany a_buffer a_length a_bytes a_weight a_live a_size a_list a_moved a_planned a_stream a_reportedEnd a_reportedKeyword a_starts a_keywordAt a_element a_long1 a_head a_tail a_next a_skip a_last a_whole a_edges a_covers a_weighs a_numbers a_takes a_takenAt) → va_S Az s.heap Hz lz → W p l e (headSpec wsX8_resetStream rm_X8_resetStream).room s m args below meth c Hz lz 0 0 (MQ below (QW D vwCl (some (.int (iI r))) wz Az) args s 0 0 Az) (F0 m 0 ls [])) s.heap [] hP hD hSz
  intro Hz lz hP hD hSz
  refine lv_aload_n hx hb dX8_resetStream_0 rfl (lv_at hl 0 rfl) ?_
  refine k_iconst (n := 0) hx hb dX8_resetStream_1 ?_
  refine va_put (ci := 8) (v := .int (iI 0)) (ty := .int) (C := RX8) (T := TX8) (N := 42) hx hb hts hiX8 tyX8 tyX8_ok nmX8 hown hK hP hD hSz 0 rfl rfl 0 (by decide) hf1 (fun _ h9 => h9) rfl (by decide +kernel) rfl rfl (Nat.le_of_ble_eq_true rfl) dX8_resetStream_2 (fun Hz lz hP hD hSz => ?_)
  have hP : va_P D vwCl (wM cI cZ cJ ad 0 x_buffered x_given x_isFolding x_work x_rebuilt x_streamed x_reports x_gapFrom x_gapSize x_elements x_wholeSize x_isLaid x_takenMany a_buffer a_length a_bytes a_weight a_live a_size a_list a_moved a_planned a_stream a_reportedEnd a_reportedKeyword a_starts a_keywordAt a_element a_long1 a_head a_tail a_next a_skip a_last a_whole a_edges a_covers a_weighs a_numbers a_takes a_takenAt) Hz := hP
  have hD : va_D Az (wM cI cZ cJ ad 0 x_buffered x_given x_isFolding x_work x_rebuilt x_streamed x_reports x_gapFrom x_gapSize x_elements x_wholeSize x_isLaid x_takenMany a_buffer a_length a_bytes a_weight a_live a_size a_list a_moved a_planned a_stream a_reportedEnd a_reportedKeyword a_starts a_keywordAt a_element a_long1 a_head a_tail a_next a_skip a_last a_whole a_edges a_covers a_weighs a_numbers a_takes a_takenAt) := hD
  refine lv_aload_n hx hb dX8_resetStream_5 rfl (lv_at hl 0 rfl) ?_
  refine va_get (ci := 8) (v := .int (iI x_streamed)) (C := RX8) (T := TX8) (N := 42) hx hb hts hiX8 hown hK hP 0 rfl rfl 18 (by decide) hf170 (fun _ h9 => h9) rfl dX8_resetStream_6 ?_
  refine lv_istore_n (lv' := [(1, .int (iI x_streamed)), (0, .ref (ad 0))]) hx hb dX8_resetStream_9 rfl hl (by decide) rfl (fun ls hl => ?_)
  refine lv_aload_n hx hb dX8_resetStream_10 rfl (lv_at hl 1 rfl) ?_
  refine k_iconst (n := 0) hx hb dX8_resetStream_11 ?_
  refine va_put (ci := 8) (v := .int (iI 0)) (ty := .int) (C := RX8) (T := TX8) (N := 42) hx hb hts hiX8 tyX8 tyX8_ok nmX8 hown hK hP hD hSz 0 rfl rfl 18 (by decide) hf170 (fun _ h9 => h9) rfl (by decide +kernel) rfl rfl (Nat.le_of_ble_eq_true rfl) dX8_resetStream_12 (fun Hz lz hP hD hSz => ?_)
  have hP : va_P D vwCl (wM cI cZ cJ ad 0 x_buffered x_given x_isFolding x_work x_rebuilt 0 x_reports x_gapFrom x_gapSize x_elements x_wholeSize x_isLaid x_takenMany a_buffer a_length a_bytes a_weight a_live a_size a_list a_moved a_planned a_stream a_reportedEnd a_reportedKeyword a_starts a_keywordAt a_element a_long1 a_head a_tail a_next a_skip a_last a_whole a_edges a_covers a_weighs a_numbers a_takes a_takenAt) Hz := hP
  have hD : va_D Az (wM cI cZ cJ ad 0 x_buffered x_given x_isFolding x_work x_rebuilt 0 x_reports x_gapFrom x_gapSize x_elements x_wholeSize x_isLaid x_takenMany a_buffer a_length a_bytes a_weight a_live a_size a_list a_moved a_planned a_stream a_reportedEnd a_reportedKeyword a_starts a_keywordAt a_element a_long1 a_head a_tail a_next a_skip a_last a_whole a_edges a_covers a_weighs a_numbers a_takes a_takenAt) := hD
  refine lv_aload_n hx hb dX8_resetStream_15 rfl (lv_at hl 1 rfl) ?_
  refine k_iconst (n := 0) hx hb dX8_resetStream_16 ?_
  refine va_put (ci := 8) (v := .int (iI 0)) (ty := .int) (C := RX8) (T := TX8) (N := 42) hx hb hts hiX8 tyX8 tyX8_ok nmX8 hown hK hP hD hSz 0 rfl rfl 19 (by decide) hf200 (fun _ h9 => h9) rfl (by decide +kernel) rfl rfl (Nat.le_of_ble_eq_true rfl) dX8_resetStream_17 (fun Hz lz hP hD hSz => ?_)
  have hP : va_P D vwCl (wM cI cZ cJ ad 0 x_buffered x_given x_isFolding x_work x_rebuilt 0 0 x_gapFrom x_gapSize x_elements x_wholeSize x_isLaid x_takenMany a_buffer a_length a_bytes a_weight a_live a_size a_list a_moved a_planned a_stream a_reportedEnd a_reportedKeyword a_starts a_keywordAt a_element a_long1 a_head a_tail a_next a_skip a_last a_whole a_edges a_covers a_weighs a_numbers a_takes a_takenAt) Hz := hP
  have hD : va_D Az (wM cI cZ cJ ad 0 x_buffered x_given x_isFolding x_work x_rebuilt 0 0 x_gapFrom x_gapSize x_elements x_wholeSize x_isLaid x_takenMany a_buffer a_length a_bytes a_weight a_live a_size a_list a_moved a_planned a_stream a_reportedEnd a_reportedKeyword a_starts a_keywordAt a_element a_long1 a_head a_tail a_next a_skip a_last a_whole a_edges a_covers a_weighs a_numbers a_takes a_takenAt) := hD
  refine lv_iload_n hx hb dX8_resetStream_20 rfl (lv_at hl 0 rfl) ?_
  cases hs
  exact k_iret_w hx hb hr hlk (by rw [hw1]; exact hP) hSz dX8_resetStream_21 rfl
/-! X8_streamLength -/
noncomputable def s_X8_streamLength (x_thrown : Int) (x_streamed : Int) : Option (Int × Int) := some (x_streamed, 0)
def rm_X8_streamLength : Room := { frames := 0, cells := 0, slots := 0, locals := 0 }
set_option maxHeartbeats 4000000 in
set_option maxRecDepth 100000 in
theorem c_X8_streamLength (l : Launch) (D : va_G) (cI cZ cJ : ClassId) {ad : Nat → Nat} {x_thrown : Int} {x_buffered : Int} {x_given : Int} {x_isFolding : Int} {x_work : Int} {x_rebuilt : Int} {x_streamed : Int} {x_reports : Int} {x_gapFrom : Int} {x_gapSize : Int} {x_elements : Int} {x_wholeSize : Int} {x_isLaid : Int} {x_takenMany : Int} {a_buffer : (Int → Int)} {a_length : (Int → Int)} {a_bytes : (Int → Int)} {a_weight : (Int → Int)} {a_live : (Int → Int)} {a_size : (Int → Int)} {a_list : (Int → Int)} {a_moved : (Int → Int)} {a_planned : (Int → Int)} {a_stream : (Int → Int)} {a_reportedEnd : (Int → Int)} {a_reportedKeyword : (Int → Int)} {a_starts : (Int → Int)} {a_keywordAt : (Int → Int)} {a_element : (Int → Int)} {a_long1 : (Int → Int)} {a_head : (Int → Int)} {a_tail : (Int → Int)} {a_next : (Int → Int)} {a_skip : (Int → Int)} {a_last : (Int → Int)} {a_whole : (Int → Int)} {a_edges : (Int → Int)} {a_covers : (Int → Int)} {a_weighs : (Int → Int)} {a_numbers : (Int → Int)} {a_takes : (Int → Int)} {a_takenAt : (Int → Int)} {r : Int} {y_x_thrown : Int} {sz : Nat} (hs : s_X8_streamLength x_thrown x_streamed = some (r, y_x_thrown)) : Met l yX8_streamLength wsX8_streamLength rm_X8_streamLength (PW D vwCl [(cI, .int), (cZ, .boolean), (cJ, .long)] [.ref (ad 0)] (wM cI cZ cJ ad x_thrown x_buffered x_given x_isFolding x_work x_rebuilt x_streamed x_reports x_gapFrom x_gapSize x_elements x_wholeSize x_isLaid x_takenMany a_buffer a_length a_bytes a_weight a_live a_size a_list a_moved a_planned a_stream a_reportedEnd a_reportedKeyword a_starts a_keywordAt a_element a_long1 a_head a_tail a_next a_skip a_last a_whole a_edges a_covers a_weighs a_numbers a_takes a_takenAt) sz) (QW D vwCl (some (.int (iI r))) (wM cI cZ cJ ad y_x_thrown x_buffered x_given x_isFolding x_work x_rebuilt x_streamed x_reports x_gapFrom x_gapSize x_elements x_wholeSize x_isLaid x_takenMany a_buffer a_length a_bytes a_weight a_live a_size a_list a_moved a_planned a_stream a_reportedEnd a_reportedKeyword a_starts a_keywordAt a_element a_long1 a_head a_tail a_next a_skip a_last a_whole a_edges a_covers a_weighs a_numbers a_takes a_takenAt) (va_A (wM cI cZ cJ ad x_thrown x_buffered x_given x_isFolding x_work x_rebuilt x_streamed x_reports x_gapFrom x_gapSize x_elements x_wholeSize x_isLaid x_takenMany a_buffer a_length a_bytes a_weight a_live a_size a_list a_moved a_planned a_stream a_reportedEnd a_reportedKeyword a_starts a_keywordAt a_element a_long1 a_head a_tail a_next a_skip a_last a_whole a_edges a_covers a_weighs a_numbers a_takes a_takenAt) sz)) 0 0 (va_A (wM cI cZ cJ ad x_thrown x_buffered x_given x_isFolding x_work x_rebuilt x_streamed x_reports x_gapFrom x_gapSize x_elements x_wholeSize x_isLaid x_takenMany a_buffer a_length a_bytes a_weight a_live a_size a_list a_moved a_planned a_stream a_reportedEnd a_reportedKeyword a_starts a_keywordAt a_element a_long1 a_head a_tail a_next a_skip a_last a_whole a_edges a_covers a_weighs a_numbers a_takes a_takenAt) sz) := by
  refine Met.ofW (cc := cX8_streamLength) (maxL := 1) (ret := (some .int)) (by decide) rfl ?_
  intro p e s m args below meth c s₁ B hml hv
  obtain ⟨hav, hsz, hP, hK, hD0⟩ := hv
  have hx := B.exec
  have hb := B.bytes
  have hr := B.returns
  have hts := atoms_spec (ws := wsX8_streamLength) B.pre
  have hown : s.vm.findClass RX8 = some m.cls := findClass_of_methodNamed B.named
  have hlk := B.notSynchronized
  have hf1 : (Cond.fieldLink RX8 1 "KeywordMatcherModel" "thrown" "I").before args s = true := hts _ (List.mem_of_getElem? (i := 1) rfl)
  have hiX8 : ∀ w ∈ wsX80, w ∈ wsX8_streamLength := fun w h => List.mem_cons_of_mem _ (List.mem_append_right _ h)
  have hf170 : (Cond.fieldLink RX8 170 "KeywordMatcherModel" "streamed" "I").before args s = true := hts _ (List.mem_of_getElem? (i := 2) rfl)
  subst hsz
  have hD := hD0.self (sz := s.heap.size)
  generalize hAe : va_A (wM cI cZ cJ ad x_thrown x_buffered x_given x_isFolding x_work x_rebuilt x_streamed x_reports x_gapFrom x_gapSize x_elements x_wholeSize x_isLaid x_takenMany a_buffer a_length a_bytes a_weight a_live a_size a_list a_moved a_planned a_stream a_reportedEnd a_reportedKeyword a_starts a_keywordAt a_element a_long1 a_head a_tail a_next a_skip a_last a_whole a_edges a_covers a_weighs a_numbers a_takes a_takenAt) s.heap.size = Az at hD ⊢
  have hA : ∀ q : Nat, s.heap.size ≤ q → Az q := fun q h => by rw [← hAe]; exact Or.inr h
  clear hAe
  have hSz : va_S Az s.heap s.heap [] := va_S.rf
  obtain ⟨wz, hw1⟩ : ∃ z : va_W, z = (wM cI cZ cJ ad y_x_thrown x_buffered x_given x_isFolding x_work x_rebuilt x_streamed x_reports x_gapFrom x_gapSize x_elements x_wholeSize x_isLaid x_takenMany a_buffer a_length a_bytes a_weight a_live a_size a_list a_moved a_planned a_stream a_reportedEnd a_reportedKeyword a_starts a_keywordAt a_element a_long1 a_head a_tail a_next a_skip a_last a_whole a_edges a_covers a_weighs a_numbers a_takes a_takenAt) := ⟨_, rfl⟩
  rw [← hw1]
  have hl := lv_entry ([.ref (ad 0)]) (n := 1) (Nat.le_of_ble_eq_true rfl)
  rw [show entryFrame m args 1 = entryFrame m ([.ref (ad 0)] : List Value).toArray 1 from by rw [hav], lg_entry_eq]
  generalize (lg_sl ([.ref (ad 0)]) ++ List.replicate (1 - (lg_sl ([.ref (ad 0)])).length) Slot.unset).toArray = ls at hl ⊢
  have hl : lv_has ls 1 [(0, .ref (ad 0))] := hl
  unfold s_X8_streamLength at hs
  refine (?_ : ∀ (Hz : Heap) (lz : List Loc), va_P D vwCl (wM cI cZ cJ ad x_thrown x_buffered x_given x_isFolding x_work x_rebuilt x_streamed x_reports x_gapFrom x_gapSize x_elements x_wholeSize x_isLaid x_takenMany a_buffer a_length a_bytes a_weight a_live a_size a_list a_moved a_planned a_stream a_reportedEnd a_reportedKeyword a_starts a_keywordAt a_element a_long1 a_head a_tail a_next a_skip a_last a_whole a_edges a_covers a_weighs a_numbers a_takes a_takenAt) Hz → va_D Az (wM cI cZ cJ ad x_thrown x_buffered x_given x_isFolding x_work x_rebuilt x_streamed x_reports x_gapFrom x_gapSize x_elements x_wholeSize x_isLaid x_takenMany a_buffer a_length a_bytes a_weight a_live a_size a_list a_moved a_planned a_stream a_reportedEnd a_reportedKeyword a_starts a_keywordAt a_element a_long1 a_head a_tail a_next a_skip a_last a_whole a_edges a_covers a_weighs a_numbers a_takes a_takenAt) → va_S Az s.heap Hz lz → W p l e (headSpec wsX8_streamLength rm_X8_streamLength).room s m args below meth c Hz lz 0 0 (MQ below (QW D vwCl (some (.int (iI r))) wz Az) args s 0 0 Az) (F0 m 0 ls [])) s.heap [] hP hD hSz
  intro Hz lz hP hD hSz
  refine lv_aload_n hx hb dX8_streamLength_0 rfl (lv_at hl 0 rfl) ?_
  refine k_iconst (n := 0) hx hb dX8_streamLength_1 ?_
  refine va_put (ci := 8) (v := .int (iI 0)) (ty := .int) (C := RX8) (T := TX8) (N := 42) hx hb hts hiX8 tyX8 tyX8_ok nmX8 hown hK hP hD hSz 0 rfl rfl 0 (by decide) hf1 (fun _ h9 => h9) rfl (by decide +kernel) rfl rfl (Nat.le_of_ble_eq_true rfl) dX8_streamLength_2 (fun Hz lz hP hD hSz => ?_)
  have hP : va_P D vwCl (wM cI cZ cJ ad 0 x_buffered x_given x_isFolding x_work x_rebuilt x_streamed x_reports x_gapFrom x_gapSize x_elements x_wholeSize x_isLaid x_takenMany a_buffer a_length a_bytes a_weight a_live a_size a_list a_moved a_planned a_stream a_reportedEnd a_reportedKeyword a_starts a_keywordAt a_element a_long1 a_head a_tail a_next a_skip a_last a_whole a_edges a_covers a_weighs a_numbers a_takes a_takenAt) Hz := hP
  have hD : va_D Az (wM cI cZ cJ ad 0 x_buffered x_given x_isFolding x_work x_rebuilt x_streamed x_reports x_gapFrom x_gapSize x_elements x_wholeSize x_isLaid x_takenMany a_buffer a_length a_bytes a_weight a_live a_size a_list a_moved a_planned a_stream a_reportedEnd a_reportedKeyword a_starts a_keywordAt a_element a_long1 a_head a_tail a_next a_skip a_last a_whole a_edges a_covers a_weighs a_numbers a_takes a_takenAt) := hD
  refine lv_aload_n hx hb dX8_streamLength_5 rfl (lv_at hl 0 rfl) ?_
  refine va_get (ci := 8) (v := .int (iI x_streamed)) (C := RX8) (T := TX8) (N := 42) hx hb hts hiX8 hown hK hP 0 rfl rfl 18 (by decide) hf170 (fun _ h9 => h9) rfl dX8_streamLength_6 ?_
  cases hs
  exact k_iret_w hx hb hr hlk (by rw [hw1]; exact hP) hSz dX8_streamLength_9 rfl
/-! X8_streamByte -/
noncomputable def s_X8_streamByte (x_thrown : Int) (x_streamed : Int) (a_stream : (Int → Int)) (pz1 : Int) : Option (Int × Int) := cLt pz1 0 (some ((-3), 0)) (cLt pz1 x_streamed ((rdA a_stream 600 pz1).bind (fun vz1 => some (vz1, 0))) (some ((-1), 0)))
def rm_X8_streamByte : Room := { frames := 0, cells := 0, slots := 0, locals := 0 }
set_option maxHeartbeats 4000000 in
set_option maxRecDepth 100000 in
theorem c_X8_streamByte (l : Launch) (D : va_G) (cI cZ cJ : ClassId) {ad : Nat → Nat} {x_thrown : Int} {x_buffered : Int} {x_given : Int} {x_isFolding : Int} {x_work : Int} {x_rebuilt : Int} {x_streamed : Int} {x_reports : Int} {x_gapFrom : Int} {x_gapSize : Int} {x_elements : Int} {x_wholeSize : Int} {x_isLaid : Int} {x_takenMany : Int} {a_buffer : (Int → Int)} {a_length : (Int → Int)} {a_bytes : (Int → Int)} {a_weight : (Int → Int)} {a_live : (Int → Int)} {a_size : (Int → Int)} {a_list : (Int → Int)} {a_moved : (Int → Int)} {a_planned : (Int → Int)} {a_stream : (Int → Int)} {a_reportedEnd : (Int → Int)} {a_reportedKeyword : (Int → Int)} {a_starts : (Int → Int)} {a_keywordAt : (Int → Int)} {a_element : (Int → Int)} {a_long1 : (Int → Int)} {a_head : (Int → Int)} {a_tail : (Int → Int)} {a_next : (Int → Int)} {a_skip : (Int → Int)} {a_last : (Int → Int)} {a_whole : (Int → Int)} {a_edges : (Int → Int)} {a_covers : (Int → Int)} {a_weighs : (Int → Int)} {a_numbers : (Int → Int)} {a_takes : (Int → Int)} {a_takenAt : (Int → Int)} {pz1 : Int} {r : Int} {y_x_thrown : Int} {sz : Nat} (hs : s_X8_streamByte x_thrown x_streamed a_stream pz1 = some (r, y_x_thrown)) : Met l yX8_streamByte wsX8_streamByte rm_X8_streamByte (PW D vwCl [(cI, .int), (cZ, .boolean), (cJ, .long)] [.ref (ad 0), .int (iI pz1)] (wM cI cZ cJ ad x_thrown x_buffered x_given x_isFolding x_work x_rebuilt x_streamed x_reports x_gapFrom x_gapSize x_elements x_wholeSize x_isLaid x_takenMany a_buffer a_length a_bytes a_weight a_live a_size a_list a_moved a_planned a_stream a_reportedEnd a_reportedKeyword a_starts a_keywordAt a_element a_long1 a_head a_tail a_next a_skip a_last a_whole a_edges a_covers a_weighs a_numbers a_takes a_takenAt) sz) (QW D vwCl (some (.int (iI r))) (wM cI cZ cJ ad y_x_thrown x_buffered x_given x_isFolding x_work x_rebuilt x_streamed x_reports x_gapFrom x_gapSize x_elements x_wholeSize x_isLaid x_takenMany a_buffer a_length a_bytes a_weight a_live a_size a_list a_moved a_planned a_stream a_reportedEnd a_reportedKeyword a_starts a_keywordAt a_element a_long1 a_head a_tail a_next a_skip a_last a_whole a_edges a_covers a_weighs a_numbers a_takes a_takenAt) (va_A (wM cI cZ cJ ad x_thrown x_buffered x_given x_isFolding x_work x_rebuilt x_streamed x_reports x_gapFrom x_gapSize x_elements x_wholeSize x_isLaid x_takenMany a_buffer a_length a_bytes a_weight a_live a_size a_list a_moved a_planned a_stream a_reportedEnd a_reportedKeyword a_starts a_keywordAt a_element a_long1 a_head a_tail a_next a_skip a_last a_whole a_edges a_covers a_weighs a_numbers a_takes a_takenAt) sz)) 0 0 (va_A (wM cI cZ cJ ad x_thrown x_buffered x_given x_isFolding x_work x_rebuilt x_streamed x_reports x_gapFrom x_gapSize x_elements x_wholeSize x_isLaid x_takenMany a_buffer a_length a_bytes a_weight a_live a_size a_list a_moved a_planned a_stream a_reportedEnd a_reportedKeyword a_starts a_keywordAt a_element a_long1 a_head a_tail a_next a_skip a_last a_whole a_edges a_covers a_weighs a_numbers a_takes a_takenAt) sz) := by
  refine Met.ofW (cc := cX8_streamByte) (maxL := 2) (ret := (some .int)) (by decide) rfl ?_
  intro p e s m args below meth c s₁ B hml hv
  obtain ⟨hav, hsz, hP, hK, hD0⟩ := hv
  have hx := B.exec
  have hb := B.bytes
  have hr := B.returns
  have hts := atoms_spec (ws := wsX8_streamByte) B.pre
  have hown : s.vm.findClass RX8 = some m.cls := findClass_of_methodNamed B.named
  have hlk := B.notSynchronized
  have hf1 : (Cond.fieldLink RX8 1 "KeywordMatcherModel" "thrown" "I").before args s = true := hts _ (List.mem_of_getElem? (i := 1) rfl)
  have hiX8 : ∀ w ∈ wsX80, w ∈ wsX8_streamByte := fun w h => List.mem_cons_of_mem _ (List.mem_append_right _ h)
  have hf170 : (Cond.fieldLink RX8 170 "KeywordMatcherModel" "streamed" "I").before args s = true := hts _ (List.mem_of_getElem? (i := 2) rfl)
  have hf42 : (Cond.fieldLink RX8 42 "KeywordMatcherModel" "stream" "[I").before args s = true := hts _ (List.mem_of_getElem? (i := 3) rfl)
  subst hsz
  have hD := hD0.self (sz := s.heap.size)
  generalize hAe : va_A (wM cI cZ cJ ad x_thrown x_buffered x_given x_isFolding x_work x_rebuilt x_streamed x_reports x_gapFrom x_gapSize x_elements x_wholeSize x_isLaid x_takenMany a_buffer a_length a_bytes a_weight a_live a_size a_list a_moved a_planned a_stream a_reportedEnd a_reportedKeyword a_starts a_keywordAt a_element a_long1 a_head a_tail a_next a_skip a_last a_whole a_edges a_covers a_weighs a_numbers a_takes a_takenAt) s.heap.size = Az at hD ⊢
  have hA : ∀ q : Nat, s.heap.size ≤ q → Az q := fun q h => by rw [← hAe]; exact Or.inr h
  clear hAe
  have hSz : va_S Az s.heap s.heap [] := va_S.rf
  obtain ⟨wz, hw1⟩ : ∃ z : va_W, z = (wM cI cZ cJ ad y_x_thrown x_buffered x_given x_isFolding x_work x_rebuilt x_streamed x_reports x_gapFrom x_gapSize x_elements x_wholeSize x_isLaid x_takenMany a_buffer a_length a_bytes a_weight a_live a_size a_list a_moved a_planned a_stream a_reportedEnd a_reportedKeyword a_starts a_keywordAt a_element a_long1 a_head a_tail a_next a_skip a_last a_whole a_edges a_covers a_weighs a_numbers a_takes a_takenAt) := ⟨_, rfl⟩
  rw [← hw1]
  have hl := lv_entry ([.ref (ad 0), .int (iI pz1)]) (n := 2) (Nat.le_of_ble_eq_true rfl)
  rw [show entryFrame m args 2 = entryFrame m ([.ref (ad 0), .int (iI pz1)] : List Value).toArray 2 from by rw [hav], lg_entry_eq]
  generalize (lg_sl ([.ref (ad 0), .int (iI pz1)]) ++ List.replicate (2 - (lg_sl ([.ref (ad 0), .int (iI pz1)])).length) Slot.unset).toArray = ls at hl ⊢
  have hl : lv_has ls 2 [(0, .ref (ad 0)), (1, .int (iI pz1))] := hl
  unfold s_X8_streamByte at hs
  refine (?_ : ∀ (Hz : Heap) (lz : List Loc), va_P D vwCl (wM cI cZ cJ ad x_thrown x_buffered x_given x_isFolding x_work x_rebuilt x_streamed x_reports x_gapFrom x_gapSize x_elements x_wholeSize x_isLaid x_takenMany a_buffer a_length a_bytes a_weight a_live a_size a_list a_moved a_planned a_stream a_reportedEnd a_reportedKeyword a_starts a_keywordAt a_element a_long1 a_head a_tail a_next a_skip a_last a_whole a_edges a_covers a_weighs a_numbers a_takes a_takenAt) Hz → va_D Az (wM cI cZ cJ ad x_thrown x_buffered x_given x_isFolding x_work x_rebuilt x_streamed x_reports x_gapFrom x_gapSize x_elements x_wholeSize x_isLaid x_takenMany a_buffer a_length a_bytes a_weight a_live a_size a_list a_moved a_planned a_stream a_reportedEnd a_reportedKeyword a_starts a_keywordAt a_element a_long1 a_head a_tail a_next a_skip a_last a_whole a_edges a_covers a_weighs a_numbers a_takes a_takenAt) → va_S Az s.heap Hz lz → W p l e (headSpec wsX8_streamByte rm_X8_streamByte).room s m args below meth c Hz lz 0 0 (MQ below (QW D vwCl (some (.int (iI r))) wz Az) args s 0 0 Az) (F0 m 0 ls [])) s.heap [] hP hD hSz
  intro Hz lz hP hD hSz
  refine lv_aload_n hx hb dX8_streamByte_0 rfl (lv_at hl 0 rfl) ?_
  refine k_iconst (n := 0) hx hb dX8_streamByte_1 ?_
  refine va_put (ci := 8) (v := .int (iI 0)) (ty := .int) (C := RX8) (T := TX8) (N := 42) hx hb hts hiX8 tyX8 tyX8_ok nmX8 hown hK hP hD hSz 0 rfl rfl 0 (by decide) hf1 (fun _ h9 => h9) rfl (by decide +kernel) rfl rfl (Nat.le_of_ble_eq_true rfl) dX8_streamByte_2 (fun Hz lz hP hD hSz => ?_)
  have hP : va_P D vwCl (wM cI cZ cJ ad 0 x_buffered x_given x_isFolding x_work x_rebuilt x_streamed x_reports x_gapFrom x_gapSize x_elements x_wholeSize x_isLaid x_takenMany a_buffer a_length a_bytes a_weight a_live a_size a_list a_moved a_planned a_stream a_reportedEnd a_reportedKeyword a_starts a_keywordAt a_element a_long1 a_head a_tail a_next a_skip a_last a_whole a_edges a_covers a_weighs a_numbers a_takes a_takenAt) Hz := hP
  have hD : va_D Az (wM cI cZ cJ ad 0 x_buffered x_given x_isFolding x_work x_rebuilt x_streamed x_reports x_gapFrom x_gapSize x_elements x_wholeSize x_isLaid x_takenMany a_buffer a_length a_bytes a_weight a_live a_size a_list a_moved a_planned a_stream a_reportedEnd a_reportedKeyword a_starts a_keywordAt a_element a_long1 a_head a_tail a_next a_skip a_last a_whole a_edges a_covers a_weighs a_numbers a_takes a_takenAt) := hD
  refine lv_iload_n hx hb dX8_streamByte_5 rfl (lv_at hl 1 rfl) ?_
  refine k_if_ge (tgt := 12) hx hb hs dX8_streamByte_6 (by decide) (fun hs => ?_) (fun hs => ?_)
  · refine k_bipush (n := (-3)) hx hb (by decide) dX8_streamByte_9 ?_
    cases hs
    exact k_iret_w hx hb hr hlk (by rw [hw1]; exact hP) hSz dX8_streamByte_11 rfl
  · refine lv_iload_n hx hb dX8_streamByte_12 rfl (lv_at hl 1 rfl) ?_
    refine lv_aload_n hx hb dX8_streamByte_13 rfl (lv_at hl 0 rfl) ?_
    refine va_get (ci := 8) (v := .int (iI x_streamed)) (C := RX8) (T := TX8) (N := 42) hx hb hts hiX8 hown hK hP 0 rfl rfl 18 (by decide) hf170 (fun _ h9 => h9) rfl dX8_streamByte_14 ?_
    refine k_icmp_ge (tgt := 29) hx hb hs dX8_streamByte_17 (by decide) (fun hs => ?_) (fun hs => ?_)
    · refine lv_aload_n hx hb dX8_streamByte_20 rfl (lv_at hl 0 rfl) ?_
      refine va_get (ci := 8) (v := .ref (ad 10)) (C := RX8) (T := TX8) (N := 42) hx hb hts hiX8 hown hK hP 0 rfl rfl 15 (by decide) hf42 (fun _ h9 => h9) rfl dX8_streamByte_21 ?_
      refine lv_iload_n hx hb dX8_streamByte_24 rfl (lv_at hl 1 rfl) ?_
      refine k_iald hx hb hK hP 10 0 rfl rfl (Nat.le_of_ble_eq_true rfl) hs dX8_streamByte_25 (fun vz1 hs => ?_)
      refine lv_goto (tgt := 30) hx hb dX8_streamByte_26 (by decide) ?_
      cases hs
      exact k_iret_w hx hb hr hlk (by rw [hw1]; exact hP) hSz dX8_streamByte_30 rfl
    · refine k_iconst (n := (-1)) hx hb dX8_streamByte_29 ?_
      cases hs
      exact k_iret_w hx hb hr hlk (by rw [hw1]; exact hP) hSz dX8_streamByte_30 rfl
/-! X8_reportCount -/
noncomputable def s_X8_reportCount (x_thrown : Int) (x_reports : Int) : Option (Int × Int) := some (x_reports, 0)
def rm_X8_reportCount : Room := { frames := 0, cells := 0, slots := 0, locals := 0 }
set_option maxHeartbeats 4000000 in
set_option maxRecDepth 100000 in
theorem c_X8_reportCount (l : Launch) (D : va_G) (cI cZ cJ : ClassId) {ad : Nat → Nat} {x_thrown : Int} {x_buffered : Int} {x_given : Int} {x_isFolding : Int} {x_work : Int} {x_rebuilt : Int} {x_streamed : Int} {x_reports : Int} {x_gapFrom : Int} {x_gapSize : Int} {x_elements : Int} {x_wholeSize : Int} {x_isLaid : Int} {x_takenMany : Int} {a_buffer : (Int → Int)} {a_length : (Int → Int)} {a_bytes : (Int → Int)} {a_weight : (Int → Int)} {a_live : (Int → Int)} {a_size : (Int → Int)} {a_list : (Int → Int)} {a_moved : (Int → Int)} {a_planned : (Int → Int)} {a_stream : (Int → Int)} {a_reportedEnd : (Int → Int)} {a_reportedKeyword : (Int → Int)} {a_starts : (Int → Int)} {a_keywordAt : (Int → Int)} {a_element : (Int → Int)} {a_long1 : (Int → Int)} {a_head : (Int → Int)} {a_tail : (Int → Int)} {a_next : (Int → Int)} {a_skip : (Int → Int)} {a_last : (Int → Int)} {a_whole : (Int → Int)} {a_edges : (Int → Int)} {a_covers : (Int → Int)} {a_weighs : (Int → Int)} {a_numbers : (Int → Int)} {a_takes : (Int → Int)} {a_takenAt : (Int → Int)} {r : Int} {y_x_thrown : Int} {sz : Nat} (hs : s_X8_reportCount x_thrown x_reports = some (r, y_x_thrown)) : Met l yX8_reportCount wsX8_reportCount rm_X8_reportCount (PW D vwCl [(cI, .int), (cZ, .boolean), (cJ, .long)] [.ref (ad 0)] (wM cI cZ cJ ad x_thrown x_buffered x_given x_isFolding x_work x_rebuilt x_streamed x_reports x_gapFrom x_gapSize x_elements x_wholeSize x_isLaid x_takenMany a_buffer a_length a_bytes a_weight a_live a_size a_list a_moved a_planned a_stream a_reportedEnd a_reportedKeyword a_starts a_keywordAt a_element a_long1 a_head a_tail a_next a_skip a_last a_whole a_edges a_covers a_weighs a_numbers a_takes a_takenAt) sz) (QW D vwCl (some (.int (iI r))) (wM cI cZ cJ ad y_x_thrown x_buffered x_given x_isFolding x_work x_rebuilt x_streamed x_reports x_gapFrom x_gapSize x_elements x_wholeSize x_isLaid x_takenMany a_buffer a_length a_bytes a_weight a_live a_size a_list a_moved a_planned a_stream a_reportedEnd a_reportedKeyword a_starts a_keywordAt a_element a_long1 a_head a_tail a_next a_skip a_last a_whole a_edges a_covers a_weighs a_numbers a_takes a_takenAt) (va_A (wM cI cZ cJ ad x_thrown x_buffered x_given x_isFolding x_work x_rebuilt x_streamed x_reports x_gapFrom x_gapSize x_elements x_wholeSize x_isLaid x_takenMany a_buffer a_length a_bytes a_weight a_live a_size a_list a_moved a_planned a_stream a_reportedEnd a_reportedKeyword a_starts a_keywordAt a_element a_long1 a_head a_tail a_next a_skip a_last a_whole a_edges a_covers a_weighs a_numbers a_takes a_takenAt) sz)) 0 0 (va_A (wM cI cZ cJ ad x_thrown x_buffered x_given x_isFolding x_work x_rebuilt x_streamed x_reports x_gapFrom x_gapSize x_elements x_wholeSize x_isLaid x_takenMany a_buffer a_length a_bytes a_weight a_live a_size a_list a_moved a_planned a_stream a_reportedEnd a_reportedKeyword a_starts a_keywordAt a_element a_long1 a_head a_tail a_next a_skip a_last a_whole a_edges a_covers a_weighs a_numbers a_takes a_takenAt) sz) := by
  refine Met.ofW (cc := cX8_reportCount) (maxL := 1) (ret := (some .int)) (by decide) rfl ?_
  intro p e s m args below meth c s₁ B hml hv
  obtain ⟨hav, hsz, hP, hK, hD0⟩ := hv
  have hx := B.exec
  have hb := B.bytes
  have hr := B.returns
  have hts := atoms_spec (ws := wsX8_reportCount) B.pre
  have hown : s.vm.findClass RX8 = some m.cls := findClass_of_methodNamed B.named
  have hlk := B.notSynchronized
  have hf1 : (Cond.fieldLink RX8 1 "KeywordMatcherModel" "thrown" "I").before args s = true := hts _ (List.mem_of_getElem? (i := 1) rfl)
  have hiX8 : ∀ w ∈ wsX80, w ∈ wsX8_reportCount := fun w h => List.mem_cons_of_mem _ (List.mem_append_right _ h)
  have hf200 : (Cond.fieldLink RX8 200 "KeywordMatcherModel" "reports" "I").before args s = true := hts _ (List.mem_of_getElem? (i := 2) rfl)
  subst hsz
  have hD := hD0.self (sz := s.heap.size)
  generalize hAe : va_A (wM cI cZ cJ ad x_thrown x_buffered x_given x_isFolding x_work x_rebuilt x_streamed x_reports x_gapFrom x_gapSize x_elements x_wholeSize x_isLaid x_takenMany a_buffer a_length a_bytes a_weight a_live a_size a_list a_moved a_planned a_stream a_reportedEnd a_reportedKeyword a_starts a_keywordAt a_element a_long1 a_head a_tail a_next a_skip a_last a_whole a_edges a_covers a_weighs a_numbers a_takes a_takenAt) s.heap.size = Az at hD ⊢
  have hA : ∀ q : Nat, s.heap.size ≤ q → Az q := fun q h => by rw [← hAe]; exact Or.inr h
  clear hAe
  have hSz : va_S Az s.heap s.heap [] := va_S.rf
  obtain ⟨wz, hw1⟩ : ∃ z : va_W, z = (wM cI cZ cJ ad y_x_thrown x_buffered x_given x_isFolding x_work x_rebuilt x_streamed x_reports x_gapFrom x_gapSize x_elements x_wholeSize x_isLaid x_takenMany a_buffer a_length a_bytes a_weight a_live a_size a_list a_moved a_planned a_stream a_reportedEnd a_reportedKeyword a_starts a_keywordAt a_element a_long1 a_head a_tail a_next a_skip a_last a_whole a_edges a_covers a_weighs a_numbers a_takes a_takenAt) := ⟨_, rfl⟩
  rw [← hw1]
  have hl := lv_entry ([.ref (ad 0)]) (n := 1) (Nat.le_of_ble_eq_true rfl)
  rw [show entryFrame m args 1 = entryFrame m ([.ref (ad 0)] : List Value).toArray 1 from by rw [hav], lg_entry_eq]
  generalize (lg_sl ([.ref (ad 0)]) ++ List.replicate (1 - (lg_sl ([.ref (ad 0)])).length) Slot.unset).toArray = ls at hl ⊢
  have hl : lv_has ls 1 [(0, .ref (ad 0))] := hl
  unfold s_X8_reportCount at hs
  refine (?_ : ∀ (Hz : Heap) (lz : List Loc), va_P D vwCl (wM cI cZ cJ ad x_thrown x_buffered x_given x_isFolding x_work x_rebuilt x_streamed x_reports x_gapFrom x_gapSize x_elements x_wholeSize x_isLaid x_takenMany a_buffer a_length a_bytes a_weight a_live a_size a_list a_moved a_planned a_stream a_reportedEnd a_reportedKeyword a_starts a_keywordAt a_element a_long1 a_head a_tail a_next a_skip a_last a_whole a_edges a_covers a_weighs a_numbers a_takes a_takenAt) Hz → va_D Az (wM cI cZ cJ ad x_thrown x_buffered x_given x_isFolding x_work x_rebuilt x_streamed x_reports x_gapFrom x_gapSize x_elements x_wholeSize x_isLaid x_takenMany a_buffer a_length a_bytes a_weight a_live a_size a_list a_moved a_planned a_stream a_reportedEnd a_reportedKeyword a_starts a_keywordAt a_element a_long1 a_head a_tail a_next a_skip a_last a_whole a_edges a_covers a_weighs a_numbers a_takes a_takenAt) → va_S Az s.heap Hz lz → W p l e (headSpec wsX8_reportCount rm_X8_reportCount).room s m args below meth c Hz lz 0 0 (MQ below (QW D vwCl (some (.int (iI r))) wz Az) args s 0 0 Az) (F0 m 0 ls [])) s.heap [] hP hD hSz
  intro Hz lz hP hD hSz
  refine lv_aload_n hx hb dX8_reportCount_0 rfl (lv_at hl 0 rfl) ?_
  refine k_iconst (n := 0) hx hb dX8_reportCount_1 ?_
  refine va_put (ci := 8) (v := .int (iI 0)) (ty := .int) (C := RX8) (T := TX8) (N := 42) hx hb hts hiX8 tyX8 tyX8_ok nmX8 hown hK hP hD hSz 0 rfl rfl 0 (by decide) hf1 (fun _ h9 => h9) rfl (by decide +kernel) rfl rfl (Nat.le_of_ble_eq_true rfl) dX8_reportCount_2 (fun Hz lz hP hD hSz => ?_)
  have hP : va_P D vwCl (wM cI cZ cJ ad 0 x_buffered x_given x_isFolding x_work x_rebuilt x_streamed x_reports x_gapFrom x_gapSize x_elements x_wholeSize x_isLaid x_takenMany a_buffer a_length a_bytes a_weight a_live a_size a_list a_moved a_planned a_stream a_reportedEnd a_reportedKeyword a_starts a_keywordAt a_element a_long1 a_head a_tail a_next a_skip a_last a_whole a_edges a_covers a_weighs a_numbers a_takes a_takenAt) Hz := hP
  have hD : va_D Az (wM cI cZ cJ ad 0 x_buffered x_given x_isFolding x_work x_rebuilt x_streamed x_reports x_gapFrom x_gapSize x_elements x_wholeSize x_isLaid x_takenMany a_buffer a_length a_bytes a_weight a_live a_size a_list a_moved a_planned a_stream a_reportedEnd a_reportedKeyword a_starts a_keywordAt a_element a_long1 a_head a_tail a_next a_skip a_last a_whole a_edges a_covers a_weighs a_numbers a_takes a_takenAt) := hD
  refine lv_aload_n hx hb dX8_reportCount_5 rfl (lv_at hl 0 rfl) ?_
  refine va_get (ci := 8) (v := .int (iI x_reports)) (C := RX8) (T := TX8) (N := 42) hx hb hts hiX8 hown hK hP 0 rfl rfl 19 (by decide) hf200 (fun _ h9 => h9) rfl dX8_reportCount_6 ?_
  cases hs
  exact k_iret_w hx hb hr hlk (by rw [hw1]; exact hP) hSz dX8_reportCount_9 rfl
/-! X8_isStored -/
noncomputable def s_X8_isStored (x_reports : Int) (pz1 : Int) : Option (Int) := cLt pz1 x_reports (cLt pz1 300 (some 1) (some 0)) (some 0)
def rm_X8_isStored : Room := { frames := 0, cells := 0, slots := 0, locals := 0 }
set_option maxHeartbeats 4000000 in
set_option maxRecDepth 100000 in
theorem c_X8_isStored (l : Launch) (D : va_G) (cI cZ cJ : ClassId) {ad : Nat → Nat} {x_thrown : Int} {x_buffered : Int} {x_given : Int} {x_isFolding : Int} {x_work : Int} {x_rebuilt : Int} {x_streamed : Int} {x_reports : Int} {x_gapFrom : Int} {x_gapSize : Int} {x_elements : Int} {x_wholeSize : Int} {x_isLaid : Int} {x_takenMany : Int} {a_buffer : (Int → Int)} {a_length : (Int → Int)} {a_bytes : (Int → Int)} {a_weight : (Int → Int)} {a_live : (Int → Int)} {a_size : (Int → Int)} {a_list : (Int → Int)} {a_moved : (Int → Int)} {a_planned : (Int → Int)} {a_stream : (Int → Int)} {a_reportedEnd : (Int → Int)} {a_reportedKeyword : (Int → Int)} {a_starts : (Int → Int)} {a_keywordAt : (Int → Int)} {a_element : (Int → Int)} {a_long1 : (Int → Int)} {a_head : (Int → Int)} {a_tail : (Int → Int)} {a_next : (Int → Int)} {a_skip : (Int → Int)} {a_last : (Int → Int)} {a_whole : (Int → Int)} {a_edges : (Int → Int)} {a_covers : (Int → Int)} {a_weighs : (Int → Int)} {a_numbers : (Int → Int)} {a_takes : (Int → Int)} {a_takenAt : (Int → Int)} {pz1 : Int} {r : Int} (hs : s_X8_isStored x_reports pz1 = some r) : Met l yX8_isStored wsX8_isStored rm_X8_isStored (PR D vwCl [(cI, .int), (cZ, .boolean), (cJ, .long)] [.ref (ad 0), .int (iI pz1)] (wM cI cZ cJ ad x_thrown x_buffered x_given x_isFolding x_work x_rebuilt x_streamed x_reports x_gapFrom x_gapSize x_elements x_wholeSize x_isLaid x_takenMany a_buffer a_length a_bytes a_weight a_live a_size a_list a_moved a_planned a_stream a_reportedEnd a_reportedKeyword a_starts a_keywordAt a_element a_long1 a_head a_tail a_next a_skip a_last a_whole a_edges a_covers a_weighs a_numbers a_takes a_takenAt)) (QR (some (.int (iI r)))) 0 0 (fun _ => False) := by
  refine Met.ofW (cc := cX8_isStored) (maxL := 2) (ret := (some .boolean)) (by decide) rfl ?_
  intro p e s m args below meth c s₁ B hml hv
  obtain ⟨hav, hP, hK⟩ := hv
  have hx := B.exec
  have hb := B.bytes
  have hr := B.returns
  have hts := atoms_spec (ws := wsX8_isStored) B.pre
  have hown : s.vm.findClass RX8 = some m.cls := findClass_of_methodNamed B.named
  have hlk := B.notSynchronized
  have hf200 : (Cond.fieldLink RX8 200 "KeywordMatcherModel" "reports" "I").before args s = true := hts _ (List.mem_of_getElem? (i := 1) rfl)
  have hiX8 : ∀ w ∈ wsX80, w ∈ wsX8_isStored := fun w h => List.mem_cons_of_mem _ (List.mem_append_right _ h)
  have hl := lv_entry ([.ref (ad 0), .int (iI pz1)]) (n := 2) (Nat.le_of_ble_eq_true rfl)
  rw [show entryFrame m args 2 = entryFrame m ([.ref (ad 0), .int (iI pz1)] : List Value).toArray 2 from by rw [hav], lg_entry_eq]
  generalize (lg_sl ([.ref (ad 0), .int (iI pz1)]) ++ List.replicate (2 - (lg_sl ([.ref (ad 0), .int (iI pz1)])).length) Slot.unset).toArray = ls at hl ⊢
  have hl : lv_has ls 2 [(0, .ref (ad 0)), (1, .int (iI pz1))] := hl
  unfold s_X8_isStored at hs
  refine lv_iload_n hx hb dX8_isStored_0 rfl (lv_at hl 1 rfl) ?_
  refine lv_aload_n hx hb dX8_isStored_1 rfl (lv_at hl 0 rfl) ?_
  refine va_get (ci := 8) (v := .int (iI x_reports)) (C := RX8) (T := TX8) (N := 42) hx hb hts hiX8 hown hK hP 0 rfl rfl 19 (by decide) hf200 (fun _ h9 => h9) rfl dX8_isStored_2 ?_
  refine k_icmp_ge (tgt := 19) hx hb hs dX8_isStored_5 (by decide) (fun hs => ?_) (fun hs => ?_)
  · refine lv_iload_n hx hb dX8_isStored_8 rfl (lv_at hl 1 rfl) ?_
    refine k_sipush (n := 300) hx hb (by decide) dX8_isStored_9 ?_
    refine k_icmp_ge (tgt := 19) hx hb hs dX8_isStored_12 (by decide) (fun hs => ?_) (fun hs => ?_)
    · refine k_iconst (n := 1) hx hb dX8_isStored_15 ?_
      refine lv_goto (tgt := 20) hx hb dX8_isStored_16 (by decide) ?_
      cases hs
      exact k_zret_r hx hb hr hlk rfl (by decide) dX8_isStored_20 rfl
    · refine k_iconst (n := 0) hx hb dX8_isStored_19 ?_
      cases hs
      exact k_zret_r hx hb hr hlk rfl (by decide) dX8_isStored_20 rfl
  · refine k_iconst (n := 0) hx hb dX8_isStored_19 ?_
    cases hs
    exact k_zret_r hx hb hr hlk rfl (by decide) dX8_isStored_20 rfl
/-! X8_reportEnd -/
noncomputable def s_X8_reportEnd (x_thrown : Int) (x_reports : Int) (a_reportedEnd : (Int → Int)) (pz1 : Int) : Option (Int × Int) := cLt pz1 0 (some ((-3), 0)) (bd1 (s_X8_isStored x_reports pz1) (fun vz1 => cEq vz1 0 (some ((-1), 0)) ((rdA a_reportedEnd 300 pz1).bind (fun vz2 => some (vz2, 0)))))
def rm_X8_reportEnd : Room := { frames := 1, cells := 0, slots := 0, locals := 21 }
set_option maxHeartbeats 4000000 in
set_option maxRecDepth 100000 in
theorem c_X8_reportEnd (l : Launch) (D : va_G) (cI cZ cJ : ClassId) {ad : Nat → Nat} {x_thrown : Int} {x_buffered : Int} {x_given : Int} {x_isFolding : Int} {x_work : Int} {x_rebuilt : Int} {x_streamed : Int} {x_reports : Int} {x_gapFrom : Int} {x_gapSize : Int} {x_elements : Int} {x_wholeSize : Int} {x_isLaid : Int} {x_takenMany : Int} {a_buffer : (Int → Int)} {a_length : (Int → Int)} {a_bytes : (Int → Int)} {a_weight : (Int → Int)} {a_live : (Int → Int)} {a_size : (Int → Int)} {a_list : (Int → Int)} {a_moved : (Int → Int)} {a_planned : (Int → Int)} {a_stream : (Int → Int)} {a_reportedEnd : (Int → Int)} {a_reportedKeyword : (Int → Int)} {a_starts : (Int → Int)} {a_keywordAt : (Int → Int)} {a_element : (Int → Int)} {a_long1 : (Int → Int)} {a_head : (Int → Int)} {a_tail : (Int → Int)} {a_next : (Int → Int)} {a_skip : (Int → Int)} {a_last : (Int → Int)} {a_whole : (Int → Int)} {a_edges : (Int → Int)} {a_covers : (Int → Int)} {a_weighs : (Int → Int)} {a_numbers : (Int → Int)} {a_takes : (Int → Int)} {a_takenAt : (Int → Int)} {pz1 : Int} {r : Int} {y_x_thrown : Int} {sz : Nat} (hs : s_X8_reportEnd x_thrown x_reports a_reportedEnd pz1 = some (r, y_x_thrown)) : Met l yX8_reportEnd wsX8_reportEnd rm_X8_reportEnd (PW D vwCl [(cI, .int), (cZ, .boolean), (cJ, .long)] [.ref (ad 0), .int (iI pz1)] (wM cI cZ cJ ad x_thrown x_buffered x_given x_isFolding x_work x_rebuilt x_streamed x_reports x_gapFrom x_gapSize x_elements x_wholeSize x_isLaid x_takenMany a_buffer a_length a_bytes a_weight a_live a_size a_list a_moved a_planned a_stream a_reportedEnd a_reportedKeyword a_starts a_keywordAt a_element a_long1 a_head a_tail a_next a_skip a_last a_whole a_edges a_covers a_weighs a_numbers a_takes a_takenAt) sz) (QW D vwCl (some (.int (iI r))) (wM cI cZ cJ ad y_x_thrown x_buffered x_given x_isFolding x_work x_rebuilt x_streamed x_reports x_gapFrom x_gapSize x_elements x_wholeSize x_isLaid x_takenMany a_buffer a_length a_bytes a_weight a_live a_size a_list a_moved a_planned a_stream a_reportedEnd a_reportedKeyword a_starts a_keywordAt a_element a_long1 a_head a_tail a_next a_skip a_last a_whole a_edges a_covers a_weighs a_numbers a_takes a_takenAt) (va_A (wM cI cZ cJ ad x_thrown x_buffered x_given x_isFolding x_work x_rebuilt x_streamed x_reports x_gapFrom x_gapSize x_elements x_wholeSize x_isLaid x_takenMany a_buffer a_length a_bytes a_weight a_live a_size a_list a_moved a_planned a_stream a_reportedEnd a_reportedKeyword a_starts a_keywordAt a_element a_long1 a_head a_tail a_next a_skip a_last a_whole a_edges a_covers a_weighs a_numbers a_takes a_takenAt) sz)) 0 0 (va_A (wM cI cZ cJ ad x_thrown x_buffered x_given x_isFolding x_work x_rebuilt x_streamed x_reports x_gapFrom x_gapSize x_elements x_wholeSize x_isLaid x_takenMany a_buffer a_length a_bytes a_weight a_live a_size a_list a_moved a_planned a_stream a_reportedEnd a_reportedKeyword a_starts a_keywordAt a_element a_long1 a_head a_tail a_next a_skip a_last a_whole a_edges a_covers a_weighs a_numbers a_takes a_takenAt) sz) := by
  refine Met.ofW (cc := cX8_reportEnd) (maxL := 2) (ret := (some .int)) (by decide) rfl ?_
  intro p e s m args below meth c s₁ B hml hv
  obtain ⟨hav, hsz, hP, hK, hD0⟩ := hv
  have hx := B.exec
  have hb := B.bytes
  have hr := B.returns
  have hts := atoms_spec (ws := wsX8_reportEnd) B.pre
  have hown : s.vm.findClass RX8 = some m.cls := findClass_of_methodNamed B.named
  have hlk := B.notSynchronized
  have hf1 : (Cond.fieldLink RX8 1 "KeywordMatcherModel" "thrown" "I").before args s = true := hts _ (List.mem_of_getElem? (i := 1) rfl)
  have hiX8 : ∀ w ∈ wsX80, w ∈ wsX8_reportEnd := fun w h => List.mem_cons_of_mem _ (List.mem_append_right _ h)
  have hf45 : (Cond.fieldLink RX8 45 "KeywordMatcherModel" "reportedEnd" "[I").before args s = true := hts _ (List.mem_of_getElem? (i := 2) rfl)
  subst hsz
  have hD := hD0.self (sz := s.heap.size)
  generalize hAe : va_A (wM cI cZ cJ ad x_thrown x_buffered x_given x_isFolding x_work x_rebuilt x_streamed x_reports x_gapFrom x_gapSize x_elements x_wholeSize x_isLaid x_takenMany a_buffer a_length a_bytes a_weight a_live a_size a_list a_moved a_planned a_stream a_reportedEnd a_reportedKeyword a_starts a_keywordAt a_element a_long1 a_head a_tail a_next a_skip a_last a_whole a_edges a_covers a_weighs a_numbers a_takes a_takenAt) s.heap.size = Az at hD ⊢
  have hA : ∀ q : Nat, s.heap.size ≤ q → Az q := fun q h => by rw [← hAe]; exact Or.inr h
  clear hAe
  have hSz : va_S Az s.heap s.heap [] := va_S.rf
  obtain ⟨wz, hw1⟩ : ∃ z : va_W, z = (wM cI cZ cJ ad y_x_thrown x_buffered x_given x_isFolding x_work x_rebuilt x_streamed x_reports x_gapFrom x_gapSize x_elements x_wholeSize x_isLaid x_takenMany a_buffer a_length a_bytes a_weight a_live a_size a_list a_moved a_planned a_stream a_reportedEnd a_reportedKeyword a_starts a_keywordAt a_element a_long1 a_head a_tail a_next a_skip a_last a_whole a_edges a_covers a_weighs a_numbers a_takes a_takenAt) := ⟨_, rfl⟩
  rw [← hw1]
  have hl := lv_entry ([.ref (ad 0), .int (iI pz1)]) (n := 2) (Nat.le_of_ble_eq_true rfl)
  rw [show entryFrame m args 2 = entryFrame m ([.ref (ad 0), .int (iI pz1)] : List Value).toArray 2 from by rw [hav], lg_entry_eq]
  generalize (lg_sl ([.ref (ad 0), .int (iI pz1)]) ++ List.replicate (2 - (lg_sl ([.ref (ad 0), .int (iI pz1)])).length) Slot.unset).toArray = ls at hl ⊢
  have hl : lv_has ls 2 [(0, .ref (ad 0)), (1, .int (iI pz1))] := hl
  unfold s_X8_reportEnd at hs
  refine (?_ : ∀ (Hz : Heap) (lz : List Loc), va_P D vwCl (wM cI cZ cJ ad x_thrown x_buffered x_given x_isFolding x_work x_rebuilt x_streamed x_reports x_gapFrom x_gapSize x_elements x_wholeSize x_isLaid x_takenMany a_buffer a_length a_bytes a_weight a_live a_size a_list a_moved a_planned a_stream a_reportedEnd a_reportedKeyword a_starts a_keywordAt a_element a_long1 a_head a_tail a_next a_skip a_last a_whole a_edges a_covers a_weighs a_numbers a_takes a_takenAt) Hz → va_D Az (wM cI cZ cJ ad x_thrown x_buffered x_given x_isFolding x_work x_rebuilt x_streamed x_reports x_gapFrom x_gapSize x_elements x_wholeSize x_isLaid x_takenMany a_buffer a_length a_bytes a_weight a_live a_size a_list a_moved a_planned a_stream a_reportedEnd a_reportedKeyword a_starts a_keywordAt a_element a_long1 a_head a_tail a_next a_skip a_last a_whole a_edges a_covers a_weighs a_numbers a_takes a_takenAt) → va_S Az s.heap Hz lz → W p l e (headSpec wsX8_reportEnd rm_X8_reportEnd).room s m args below meth c Hz lz 0 0 (MQ below (QW D vwCl (some (.int (iI r))) wz Az) args s 0 0 Az) (F0 m 0 ls [])) s.heap [] hP hD hSz
  intro Hz lz hP hD hSz
  refine lv_aload_n hx hb dX8_reportEnd_0 rfl (lv_at hl 0 rfl) ?_
  refine k_iconst (n := 0) hx hb dX8_reportEnd_1 ?_
  refine va_put (ci := 8) (v := .int (iI 0)) (ty := .int) (C := RX8) (T := TX8) (N := 42) hx hb hts hiX8 tyX8 tyX8_ok nmX8 hown hK hP hD hSz 0 rfl rfl 0 (by decide) hf1 (fun _ h9 => h9) rfl (by decide +kernel) rfl rfl (Nat.le_of_ble_eq_true rfl) dX8_reportEnd_2 (fun Hz lz hP hD hSz => ?_)
  have hP : va_P D vwCl (wM cI cZ cJ ad 0 x_buffered x_given x_isFolding x_work x_rebuilt x_streamed x_reports x_gapFrom x_gapSize x_elements x_wholeSize x_isLaid x_takenMany a_buffer a_length a_bytes a_weight a_live a_size a_list a_moved a_planned a_stream a_reportedEnd a_reportedKeyword a_starts a_keywordAt a_element a_long1 a_head a_tail a_next a_skip a_last a_whole a_edges a_covers a_weighs a_numbers a_takes a_takenAt) Hz := hP
  have hD : va_D Az (wM cI cZ cJ ad 0 x_buffered x_given x_isFolding x_work x_rebuilt x_streamed x_reports x_gapFrom x_gapSize x_elements x_wholeSize x_isLaid x_takenMany a_buffer a_length a_bytes a_weight a_live a_size a_list a_moved a_planned a_stream a_reportedEnd a_reportedKeyword a_starts a_keywordAt a_element a_long1 a_head a_tail a_next a_skip a_last a_whole a_edges a_covers a_weighs a_numbers a_takes a_takenAt) := hD
  refine lv_iload_n hx hb dX8_reportEnd_5 rfl (lv_at hl 1 rfl) ?_
  refine k_if_ge (tgt := 12) hx hb hs dX8_reportEnd_6 (by decide) (fun hs => ?_) (fun hs => ?_)
  · refine k_bipush (n := (-3)) hx hb (by decide) dX8_reportEnd_9 ?_
    cases hs
    exact k_iret_w hx hb hr hlk (by rw [hw1]; exact hP) hSz dX8_reportEnd_11 rfl
  · refine lv_aload_n hx hb dX8_reportEnd_12 rfl (lv_at hl 0 rfl) ?_
    refine lv_iload_n hx hb dX8_reportEnd_13 rfl (lv_at hl 1 rfl) ?_
    obtain ⟨vz1, hcz, hs⟩ := bd1_some hs
    refine k_rV (As := [.int (iI pz1)]) (rest := []) (st1 := [.int (iI vz1)]) ⟨hx, hb, hml, hown, hts⟩ hK hP (c_X8_isStored l D cI cZ cJ hcz) (cwV 1 hts gX8_reportEnd_X8_isStored rfl rfl rfl (by decide +kernel) ⟨Nat.le_of_ble_eq_true rfl, Nat.le_of_ble_eq_true rfl⟩) 0 rfl rfl rfl rfl hl.1 rfl (lv_room (Nat.le_of_ble_eq_true rfl)) dX8_reportEnd_14 ⟨Nat.zero_le _, Nat.zero_le _⟩ rfl ?_
    refine k_if_eq (tgt := 29) hx hb hs dX8_reportEnd_17 (by decide) (fun hs => ?_) (fun hs => ?_)
    · refine k_iconst (n := (-1)) hx hb dX8_reportEnd_29 ?_
      cases hs
      exact k_iret_w hx hb hr hlk (by rw [hw1]; exact hP) hSz dX8_reportEnd_30 rfl
    · refine lv_aload_n hx hb dX8_reportEnd_20 rfl (lv_at hl 0 rfl) ?_
      refine va_get (ci := 8) (v := .ref (ad 11)) (C := RX8) (T := TX8) (N := 42) hx hb hts hiX8 hown hK hP 0 rfl rfl 16 (by decide) hf45 (fun _ h9 => h9) rfl dX8_reportEnd_21 ?_
      refine lv_iload_n hx hb dX8_reportEnd_24 rfl (lv_at hl 1 rfl) ?_
      refine k_iald hx hb hK hP 11 0 rfl rfl (Nat.le_of_ble_eq_true rfl) hs dX8_reportEnd_25 (fun vz2 hs => ?_)
      refine lv_goto (tgt := 30) hx hb dX8_reportEnd_26 (by decide) ?_
      cases hs
      exact k_iret_w hx hb hr hlk (by rw [hw1]; exact hP) hSz dX8_reportEnd_30 rfl
/-! X8_reportKeyword -/
noncomputable def s_X8_reportKeyword (x_thrown : Int) (x_reports : Int) (a_reportedKeyword : (Int → Int)) (pz1 : Int) : Option (Int × Int) := cLt pz1 0 (some ((-3), 0)) (bd1 (s_X8_isStored x_reports pz1) (fun vz1 => cEq vz1 0 (some ((-1), 0)) ((rdA a_reportedKeyword 300 pz1).bind (fun vz2 => some (vz2, 0)))))
def rm_X8_reportKeyword : Room := { frames := 1, cells := 0, slots := 0, locals := 21 }
set_option maxHeartbeats 4000000 in
set_option maxRecDepth 100000 in
theorem c_X8_reportKeyword (l : Launch) (D : va_G) (cI cZ cJ : ClassId) {ad : Nat → Nat} {x_thrown : Int} {x_buffered : Int} {x_given : Int} {x_isFolding : Int} {x_work : Int} {x_rebuilt : Int} {x_streamed : Int} {x_reports : Int} {x_gapFrom : Int} {x_gapSize : Int} {x_elements : Int} {x_wholeSize : Int} {x_isLaid : Int} {x_takenMany : Int} {a_buffer : (Int → Int)} {a_length : (Int → Int)} {a_bytes : (Int → Int)} {a_weight : (Int → Int)} {a_live : (Int → Int)} {a_size : (Int → Int)} {a_list : (Int → Int)} {a_moved : (Int → Int)} {a_planned : (Int → Int)} {a_stream : (Int → Int)} {a_reportedEnd : (Int → Int)} {a_reportedKeyword : (Int → Int)} {a_starts : (Int → Int)} {a_keywordAt : (Int → Int)} {a_element : (Int → Int)} {a_long1 : (Int → Int)} {a_head : (Int → Int)} {a_tail : (Int → Int)} {a_next : (Int → Int)} {a_skip : (Int → Int)} {a_last : (Int → Int)} {a_whole : (Int → Int)} {a_edges : (Int → Int)} {a_covers : (Int → Int)} {a_weighs : (Int → Int)} {a_numbers : (Int → Int)} {a_takes : (Int → Int)} {a_takenAt : (Int → Int)} {pz1 : Int} {r : Int} {y_x_thrown : Int} {sz : Nat} (hs : s_X8_reportKeyword x_thrown x_reports a_reportedKeyword pz1 = some (r, y_x_thrown)) : Met l yX8_reportKeyword wsX8_reportKeyword rm_X8_reportKeyword (PW D vwCl [(cI, .int), (cZ, .boolean), (cJ, .long)] [.ref (ad 0), .int (iI pz1)] (wM cI cZ cJ ad x_thrown x_buffered x_given x_isFolding x_work x_rebuilt x_streamed x_reports x_gapFrom x_gapSize x_elements x_wholeSize x_isLaid x_takenMany a_buffer a_length a_bytes a_weight a_live a_size a_list a_moved a_planned a_stream a_reportedEnd a_reportedKeyword a_starts a_keywordAt a_element a_long1 a_head a_tail a_next a_skip a_last a_whole a_edges a_covers a_weighs a_numbers a_takes a_takenAt) sz) (QW D vwCl (some (.int (iI r))) (wM cI cZ cJ ad y_x_thrown x_buffered x_given x_isFolding x_work x_rebuilt x_streamed x_reports x_gapFrom x_gapSize x_elements x_wholeSize x_isLaid x_takenMany a_buffer a_length a_bytes a_weight a_live a_size a_list a_moved a_planned a_stream a_reportedEnd a_reportedKeyword a_starts a_keywordAt a_element a_long1 a_head a_tail a_next a_skip a_last a_whole a_edges a_covers a_weighs a_numbers a_takes a_takenAt) (va_A (wM cI cZ cJ ad x_thrown x_buffered x_given x_isFolding x_work x_rebuilt x_streamed x_reports x_gapFrom x_gapSize x_elements x_wholeSize x_isLaid x_takenMany a_buffer a_length a_bytes a_weight a_live a_size a_list a_moved a_planned a_stream a_reportedEnd a_reportedKeyword a_starts a_keywordAt a_element a_long1 a_head a_tail a_next a_skip a_last a_whole a_edges a_covers a_weighs a_numbers a_takes a_takenAt) sz)) 0 0 (va_A (wM cI cZ cJ ad x_thrown x_buffered x_given x_isFolding x_work x_rebuilt x_streamed x_reports x_gapFrom x_gapSize x_elements x_wholeSize x_isLaid x_takenMany a_buffer a_length a_bytes a_weight a_live a_size a_list a_moved a_planned a_stream a_reportedEnd a_reportedKeyword a_starts a_keywordAt a_element a_long1 a_head a_tail a_next a_skip a_last a_whole a_edges a_covers a_weighs a_numbers a_takes a_takenAt) sz) := by
  refine Met.ofW (cc := cX8_reportKeyword) (maxL := 2) (ret := (some .int)) (by decide) rfl ?_
  intro p e s m args below meth c s₁ B hml hv
  obtain ⟨hav, hsz, hP, hK, hD0⟩ := hv
  have hx := B.exec
  have hb := B.bytes
  have hr := B.returns
  have hts := atoms_spec (ws := wsX8_reportKeyword) B.pre
  have hown : s.vm.findClass RX8 = some m.cls := findClass_of_methodNamed B.named
  have hlk := B.notSynchronized
  have hf1 : (Cond.fieldLink RX8 1 "KeywordMatcherModel" "thrown" "I").before args s = true := hts _ (List.mem_of_getElem? (i := 1) rfl)
  have hiX8 : ∀ w ∈ wsX80, w ∈ wsX8_reportKeyword := fun w h => List.mem_cons_of_mem _ (List.mem_append_right _ h)
  have hf48 : (Cond.fieldLink RX8 48 "KeywordMatcherModel" "reportedKeyword" "[I").before args s = true := hts _ (List.mem_of_getElem? (i := 2) rfl)
  subst hsz
  have hD := hD0.self (sz := s.heap.size)
  generalize hAe : va_A (wM cI cZ cJ ad x_thrown x_buffered x_given x_isFolding x_work x_rebuilt x_streamed x_reports x_gapFrom x_gapSize x_elements x_wholeSize x_isLaid x_takenMany a_buffer a_length a_bytes a_weight a_live a_size a_list a_moved a_planned a_stream a_reportedEnd a_reportedKeyword a_starts a_keywordAt a_element a_long1 a_head a_tail a_next a_skip a_last a_whole a_edges a_covers a_weighs a_numbers a_takes a_takenAt) s.heap.size = Az at hD ⊢
  have hA : ∀ q : Nat, s.heap.size ≤ q → Az q := fun q h => by rw [← hAe]; exact Or.inr h
  clear hAe
  have hSz : va_S Az s.heap s.heap [] := va_S.rf
  obtain ⟨wz, hw1⟩ : ∃ z : va_W, z = (wM cI cZ cJ ad y_x_thrown x_buffered x_given x_isFolding x_work x_rebuilt x_streamed x_reports x_gapFrom x_gapSize x_elements x_wholeSize x_isLaid x_takenMany a_buffer a_length a_bytes a_weight a_live a_size a_list a_moved a_planned a_stream a_reportedEnd a_reportedKeyword a_starts a_keywordAt a_element a_long1 a_head a_tail a_next a_skip a_last a_whole a_edges a_covers a_weighs a_numbers a_takes a_takenAt) := ⟨_, rfl⟩
  rw [← hw1]
  have hl := lv_entry ([.ref (ad 0), .int (iI pz1)]) (n := 2) (Nat.le_of_ble_eq_true rfl)
  rw [show entryFrame m args 2 = entryFrame m ([.ref (ad 0), .int (iI pz1)] : List Value).toArray 2 from by rw [hav], lg_entry_eq]
  generalize (lg_sl ([.ref (ad 0), .int (iI pz1)]) ++ List.replicate (2 - (lg_sl ([.ref (ad 0), .int (iI pz1)])).length) Slot.unset).toArray = ls at hl ⊢
  have hl : lv_has ls 2 [(0, .ref (ad 0)), (1, .int (iI pz1))] := hl
  unfold s_X8_reportKeyword at hs
  refine (?_ : ∀ (Hz : Heap) (lz : List Loc), va_P D vwCl (wM cI cZ cJ ad x_thrown x_buffered x_given x_isFolding x_work x_rebuilt x_streamed x_reports x_gapFrom x_gapSize x_elements x_wholeSize x_isLaid x_takenMany a_buffer a_length a_bytes a_weight a_live a_size a_list a_moved a_planned a_stream a_reportedEnd a_reportedKeyword a_starts a_keywordAt a_element a_long1 a_head a_tail a_next a_skip a_last a_whole a_edges a_covers a_weighs a_numbers a_takes a_takenAt) Hz → va_D Az (wM cI cZ cJ ad x_thrown x_buffered x_given x_isFolding x_work x_rebuilt x_streamed x_reports x_gapFrom x_gapSize x_elements x_wholeSize x_isLaid x_takenMany a_buffer a_length a_bytes a_weight a_live a_size a_list a_moved a_planned a_stream a_reportedEnd a_reportedKeyword a_starts a_keywordAt a_element a_long1 a_head a_tail a_next a_skip a_last a_whole a_edges a_covers a_weighs a_numbers a_takes a_takenAt) → va_S Az s.heap Hz lz → W p l e (headSpec wsX8_reportKeyword rm_X8_reportKeyword).room s m args below meth c Hz lz 0 0 (MQ below (QW D vwCl (some (.int (iI r))) wz Az) args s 0 0 Az) (F0 m 0 ls [])) s.heap [] hP hD hSz
  intro Hz lz hP hD hSz
  refine lv_aload_n hx hb dX8_reportKeyword_0 rfl (lv_at hl 0 rfl) ?_
  refine k_iconst (n := 0) hx hb dX8_reportKeyword_1 ?_
  refine va_put (ci := 8) (v := .int (iI 0)) (ty := .int) (C := RX8) (T := TX8) (N := 42) hx hb hts hiX8 tyX8 tyX8_ok nmX8 hown hK hP hD hSz 0 rfl rfl 0 (by decide) hf1 (fun _ h9 => h9) rfl (by decide +kernel) rfl rfl (Nat.le_of_ble_eq_true rfl) dX8_reportKeyword_2 (fun Hz lz hP hD hSz => ?_)
  have hP : va_P D vwCl (wM cI cZ cJ ad 0 x_buffered x_given x_isFolding x_work x_rebuilt x_streamed x_reports x_gapFrom x_gapSize x_elements x_wholeSize x_isLaid x_takenMany a_buffer a_length a_bytes a_weight a_live a_size a_list a_moved a_planned a_stream a_reportedEnd a_reportedKeyword a_starts a_keywordAt a_element a_long1 a_head a_tail a_next a_skip a_last a_whole a_edges a_covers a_weighs a_numbers a_takes a_takenAt) Hz := hP
  have hD : va_D Az (wM cI cZ cJ ad 0 x_buffered x_given x_isFolding x_work x_rebuilt x_streamed x_reports x_gapFrom x_gapSize x_elements x_wholeSize x_isLaid x_takenMany a_buffer a_length a_bytes a_weight a_live a_size a_list a_moved a_planned a_stream a_reportedEnd a_reportedKeyword a_starts a_keywordAt a_element a_long1 a_head a_tail a_next a_skip a_last a_whole a_edges a_covers a_weighs a_numbers a_takes a_takenAt) := hD
  refine lv_iload_n hx hb dX8_reportKeyword_5 rfl (lv_at hl 1 rfl) ?_
  refine k_if_ge (tgt := 12) hx hb hs dX8_reportKeyword_6 (by decide) (fun hs => ?_) (fun hs => ?_)
  · refine k_bipush (n := (-3)) hx hb (by decide) dX8_reportKeyword_9 ?_
    cases hs
    exact k_iret_w hx hb hr hlk (by rw [hw1]; exact hP) hSz dX8_reportKeyword_11 rfl
  · refine lv_aload_n hx hb dX8_reportKeyword_12 rfl (lv_at hl 0 rfl) ?_
    refine lv_iload_n hx hb dX8_reportKeyword_13 rfl (lv_at hl 1 rfl) ?_
    obtain ⟨vz1, hcz, hs⟩ := bd1_some hs
    refine k_rV (As := [.int (iI pz1)]) (rest := []) (st1 := [.int (iI vz1)]) ⟨hx, hb, hml, hown, hts⟩ hK hP (c_X8_isStored l D cI cZ cJ hcz) (cwV 1 hts gX8_reportKeyword_X8_isStored rfl rfl rfl (by decide +kernel) ⟨Nat.le_of_ble_eq_true rfl, Nat.le_of_ble_eq_true rfl⟩) 0 rfl rfl rfl rfl hl.1 rfl (lv_room (Nat.le_of_ble_eq_true rfl)) dX8_reportKeyword_14 ⟨Nat.zero_le _, Nat.zero_le _⟩ rfl ?_
    refine k_if_eq (tgt := 29) hx hb hs dX8_reportKeyword_17 (by decide) (fun hs => ?_) (fun hs => ?_)
    · refine k_iconst (n := (-1)) hx hb dX8_reportKeyword_29 ?_
      cases hs
      exact k_iret_w hx hb hr hlk (by rw [hw1]; exact hP) hSz dX8_reportKeyword_30 rfl
    · refine lv_aload_n hx hb dX8_reportKeyword_20 rfl (lv_at hl 0 rfl) ?_
      refine va_get (ci := 8) (v := .ref (ad 12)) (C := RX8) (T := TX8) (N := 42) hx hb hts hiX8 hown hK hP 0 rfl rfl 17 (by decide) hf48 (fun _ h9 => h9) rfl dX8_reportKeyword_21 ?_
      refine lv_iload_n hx hb dX8_reportKeyword_24 rfl (lv_at hl 1 rfl) ?_
      refine k_iald hx hb hK hP 12 0 rfl rfl (Nat.le_of_ble_eq_true rfl) hs dX8_reportKeyword_25 (fun vz2 hs => ?_)
      refine lv_goto (tgt := 30) hx hb dX8_reportKeyword_26 (by decide) ?_
      cases hs
      exact k_iret_w hx hb hr hlk (by rw [hw1]; exact hP) hSz dX8_reportKeyword_30 rfl
