theorem arm_10 {p : Program} {l : Launch} {e : Env} {s : State} {m : MethodId} {below : List Frame} {meth : Method} {c : Code} {b L : Nat} {xs : Nat → Int32} {D : va_G} {cI cZ cJ : ClassId} {A0 : Nat → Prop} (C : LzC p s m c b L xs D cI cZ cJ A0) : LzA p l e s m below meth c b L D cI cZ cJ A0 518 := by
  intro qK qM i t H locs ls ht hi hw hl kk
  obtain ⟨wa, wb, hw, hPa, hPb, hD, hS⟩ := hw
  obtain ⟨r, wa1, wb1, m1, m2, m3, m4, m5⟩ := met_setFolding l D ht hw (nzS_rg (avS xs (i + 1)))
  have hts := C.1.2.2.2.2
  refine lz_armW (pc0 := 518) (pc1 := 532) (pc3 := 549) C hl hw.heads hPa hPb hD hS m1 m2 m3 m4 (cwV 1 hts gL_law_X7_setFolding rfl rfl rfl (by decide +kernel) ⟨Nat.le_of_ble_eq_true rfl, Nat.le_of_ble_eq_true rfl⟩) (cwV 1 hts gL_law_X8_setFolding rfl rfl rfl (by decide +kernel) ⟨Nat.le_of_ble_eq_true rfl, Nat.le_of_ble_eq_true rfl⟩) rfl (fun k => ?_) (fun H1 locs1 hS1 k => ?_) dL_law_532 dL_law_549 dL_law_552 (by decide) (fun H1 locs1 qa qb qd qs => kk H1 locs1 ⟨_, _, m5, qa, qb, qd, qs⟩)
  · exact lz_q C hl dL_law_518 (lz_a C hS hl 1 rfl (by omega) dL_law_519 dL_law_520 dL_law_521 dL_law_522 dL_law_523 (lz_z C (avS_rg xs (i + 1)) dL_law_524 dL_law_527 dL_law_528 dL_law_531 k))
  · exact lz_m C hl dL_law_535 (lz_a C hS1 hl 1 rfl (by omega) dL_law_536 dL_law_537 dL_law_538 dL_law_539 dL_law_540 (lz_z C (avS_rg xs (i + 1)) dL_law_541 dL_law_544 dL_law_545 dL_law_548 k))
theorem arm_11 {p : Program} {l : Launch} {e : Env} {s : State} {m : MethodId} {below : List Frame} {meth : Method} {c : Code} {b L : Nat} {xs : Nat → Int32} {D : va_G} {cI cZ cJ : ClassId} {A0 : Nat → Prop} (C : LzC p s m c b L xs D cI cZ cJ A0) : LzA p l e s m below meth c b L D cI cZ cJ A0 557 := by
  intro qK qM i t H locs ls ht hi hw hl kk
  obtain ⟨wa, wb, hw, hPa, hPb, hD, hS⟩ := hw
  obtain ⟨r, wb1, m1, m2, m4, m5⟩ := met_mainSize l D ht hw (avS_rg xs (i + 1))
  have hts := C.1.2.2.2.2
  refine lz_armR (pc0 := 557) (pc1 := 563) (pc3 := 572) C hl hw.heads hPa hPb hD hS m1 m2 m4 (cwV 1 hts gL_law_X7_mainSize rfl rfl rfl (by decide +kernel) ⟨Nat.le_of_ble_eq_true rfl, Nat.le_of_ble_eq_true rfl⟩) (cwV 1 hts gL_law_X8_mainSize rfl rfl rfl (by decide +kernel) ⟨Nat.le_of_ble_eq_true rfl, Nat.le_of_ble_eq_true rfl⟩) rfl (fun k => ?_) (fun H1 locs1 hS1 k => ?_) dL_law_563 dL_law_572 dL_law_575 (by decide) (fun H1 locs1 qa qb qd qs => kk H1 locs1 ⟨_, _, m5, qa, qb, qd, qs⟩)
  · exact lz_q C hl dL_law_557 (lz_a C hS hl 1 rfl (by omega) dL_law_558 dL_law_559 dL_law_560 dL_law_561 dL_law_562 k)
  · exact lz_m C hl dL_law_566 (lz_a C hS1 hl 1 rfl (by omega) dL_law_567 dL_law_568 dL_law_569 dL_law_570 dL_law_571 k)
theorem arm_12 {p : Program} {l : Launch} {e : Env} {s : State} {m : MethodId} {below : List Frame} {meth : Method} {c : Code} {b L : Nat} {xs : Nat → Int32} {D : va_G} {cI cZ cJ : ClassId} {A0 : Nat → Prop} (C : LzC p s m c b L xs D cI cZ cJ A0) : LzA p l e s m below meth c b L D cI cZ cJ A0 580 := by
  intro qK qM i t H locs ls ht hi hw hl kk
  obtain ⟨wa, wb, hw, hPa, hPb, hD, hS⟩ := hw
  obtain ⟨r, wb1, m1, m2, m4, m5⟩ := met_removalSize l D ht hw (avS_rg xs (i + 1))
  have hts := C.1.2.2.2.2
  refine lz_armR (pc0 := 580) (pc1 := 586) (pc3 := 595) C hl hw.heads hPa hPb hD hS m1 m2 m4 (cwV 1 hts gL_law_X7_removalSize rfl rfl rfl (by decide +kernel) ⟨Nat.le_of_ble_eq_true rfl, Nat.le_of_ble_eq_true rfl⟩) (cwV 1 hts gL_law_X8_removalSize rfl rfl rfl (by decide +kernel) ⟨Nat.le_of_ble_eq_true rfl, Nat.le_of_ble_eq_true rfl⟩) rfl (fun k => ?_) (fun H1 locs1 hS1 k => ?_) dL_law_586 dL_law_595 dL_law_598 (by decide) (fun H1 locs1 qa qb qd qs => kk H1 locs1 ⟨_, _, m5, qa, qb, qd, qs⟩)
  · exact lz_q C hl dL_law_580 (lz_a C hS hl 1 rfl (by omega) dL_law_581 dL_law_582 dL_law_583 dL_law_584 dL_law_585 k)
  · exact lz_m C hl dL_law_589 (lz_a C hS1 hl 1 rfl (by omega) dL_law_590 dL_law_591 dL_law_592 dL_law_593 dL_law_594 k)
theorem arm_13 {p : Program} {l : Launch} {e : Env} {s : State} {m : MethodId} {below : List Frame} {meth : Method} {c : Code} {b L : Nat} {xs : Nat → Int32} {D : va_G} {cI cZ cJ : ClassId} {A0 : Nat → Prop} (C : LzC p s m c b L xs D cI cZ cJ A0) : LzA p l e s m below meth c b L D cI cZ cJ A0 603 := by
  intro qK qM i t H locs ls ht hi hw hl kk
  obtain ⟨wa, wb, hw, hPa, hPb, hD, hS⟩ := hw
  obtain ⟨r, wb1, m1, m2, m4, m5⟩ := met_stateCount l D ht hw (avS_rg xs (i + 1))
  have hts := C.1.2.2.2.2
  refine lz_armR (pc0 := 603) (pc1 := 609) (pc3 := 618) C hl hw.heads hPa hPb hD hS m1 m2 m4 (cwV 1 hts gL_law_X7_stateCount rfl rfl rfl (by decide +kernel) ⟨Nat.le_of_ble_eq_true rfl, Nat.le_of_ble_eq_true rfl⟩) (cwV 1 hts gL_law_X8_stateCount rfl rfl rfl (by decide +kernel) ⟨Nat.le_of_ble_eq_true rfl, Nat.le_of_ble_eq_true rfl⟩) rfl (fun k => ?_) (fun H1 locs1 hS1 k => ?_) dL_law_609 dL_law_618 dL_law_621 (by decide) (fun H1 locs1 qa qb qd qs => kk H1 locs1 ⟨_, _, m5, qa, qb, qd, qs⟩)
  · exact lz_q C hl dL_law_603 (lz_a C hS hl 1 rfl (by omega) dL_law_604 dL_law_605 dL_law_606 dL_law_607 dL_law_608 k)
  · exact lz_m C hl dL_law_612 (lz_a C hS1 hl 1 rfl (by omega) dL_law_613 dL_law_614 dL_law_615 dL_law_616 dL_law_617 k)
theorem arm_14 {p : Program} {l : Launch} {e : Env} {s : State} {m : MethodId} {below : List Frame} {meth : Method} {c : Code} {b L : Nat} {xs : Nat → Int32} {D : va_G} {cI cZ cJ : ClassId} {A0 : Nat → Prop} (C : LzC p s m c b L xs D cI cZ cJ A0) : LzA p l e s m below meth c b L D cI cZ cJ A0 626 := by
  intro qK qM i t H locs ls ht hi hw hl kk
  obtain ⟨wa, wb, hw, hPa, hPb, hD, hS⟩ := hw
  obtain ⟨r, wb1, m1, m2, m4, m5⟩ := met_currentDepth l D ht hw (avS_rg xs (i + 1))
  have hts := C.1.2.2.2.2
  refine lz_armR (pc0 := 626) (pc1 := 632) (pc3 := 641) C hl hw.heads hPa hPb hD hS m1 m2 m4 (cwV 1 hts gL_law_X7_currentDepth rfl rfl rfl (by decide +kernel) ⟨Nat.le_of_ble_eq_true rfl, Nat.le_of_ble_eq_true rfl⟩) (cwV 1 hts gL_law_X8_currentDepth rfl rfl rfl (by decide +kernel) ⟨Nat.le_of_ble_eq_true rfl, Nat.le_of_ble_eq_true rfl⟩) rfl (fun k => ?_) (fun H1 locs1 hS1 k => ?_) dL_law_632 dL_law_641 dL_law_644 (by decide) (fun H1 locs1 qa qb qd qs => kk H1 locs1 ⟨_, _, m5, qa, qb, qd, qs⟩)
  · exact lz_q C hl dL_law_626 (lz_a C hS hl 1 rfl (by omega) dL_law_627 dL_law_628 dL_law_629 dL_law_630 dL_law_631 k)
  · exact lz_m C hl dL_law_635 (lz_a C hS1 hl 1 rfl (by omega) dL_law_636 dL_law_637 dL_law_638 dL_law_639 dL_law_640 k)
theorem arm_15 {p : Program} {l : Launch} {e : Env} {s : State} {m : MethodId} {below : List Frame} {meth : Method} {c : Code} {b L : Nat} {xs : Nat → Int32} {D : va_G} {cI cZ cJ : ClassId} {A0 : Nat → Prop} (C : LzC p s m c b L xs D cI cZ cJ A0) : LzA p l e s m below meth c b L D cI cZ cJ A0 649 := by
  intro qK qM i t H locs ls ht hi hw hl kk
  obtain ⟨wa, wb, hw, hPa, hPb, hD, hS⟩ := hw
  obtain ⟨r, wb1, m1, m2, m4, m5⟩ := met_levelOf l D ht hw (avS_rg xs (i + 1))
  have hts := C.1.2.2.2.2
  refine lz_armR (pc0 := 649) (pc1 := 655) (pc3 := 664) C hl hw.heads hPa hPb hD hS m1 m2 m4 (cwV 1 hts gL_law_X7_levelOf rfl rfl rfl (by decide +kernel) ⟨Nat.le_of_ble_eq_true rfl, Nat.le_of_ble_eq_true rfl⟩) (cwV 1 hts gL_law_X8_levelOf rfl rfl rfl (by decide +kernel) ⟨Nat.le_of_ble_eq_true rfl, Nat.le_of_ble_eq_true rfl⟩) rfl (fun k => ?_) (fun H1 locs1 hS1 k => ?_) dL_law_655 dL_law_664 dL_law_667 (by decide) (fun H1 locs1 qa qb qd qs => kk H1 locs1 ⟨_, _, m5, qa, qb, qd, qs⟩)
  · exact lz_q C hl dL_law_649 (lz_a C hS hl 1 rfl (by omega) dL_law_650 dL_law_651 dL_law_652 dL_law_653 dL_law_654 k)
  · exact lz_m C hl dL_law_658 (lz_a C hS1 hl 1 rfl (by omega) dL_law_659 dL_law_660 dL_law_661 dL_law_662 dL_law_663 k)
theorem arm_16 {p : Program} {l : Launch} {e : Env} {s : State} {m : MethodId} {below : List Frame} {meth : Method} {c : Code} {b L : Nat} {xs : Nat → Int32} {D : va_G} {cI cZ cJ : ClassId} {A0 : Nat → Prop} (C : LzC p s m c b L xs D cI cZ cJ A0) : LzA p l e s m below meth c b L D cI cZ cJ A0 672 := by
  intro qK qM i t H locs ls ht hi hw hl kk
  obtain ⟨wa, wb, hw, hPa, hPb, hD, hS⟩ := hw
  obtain ⟨r, wb1, m1, m2, m4, m5⟩ := met_failureLength l D ht hw (avS_rg xs (i + 1)) (avS_rg xs (i + 2))
  have hts := C.1.2.2.2.2
  refine lz_armR (pc0 := 672) (pc1 := 683) (pc3 := 697) C hl hw.heads hPa hPb hD hS m1 m2 m4 (cwV 2 hts gL_law_X7_failureLength rfl rfl rfl (by decide +kernel) ⟨Nat.le_of_ble_eq_true rfl, Nat.le_of_ble_eq_true rfl⟩) (cwV 2 hts gL_law_X8_failureLength rfl rfl rfl (by decide +kernel) ⟨Nat.le_of_ble_eq_true rfl, Nat.le_of_ble_eq_true rfl⟩) rfl (fun k => ?_) (fun H1 locs1 hS1 k => ?_) dL_law_683 dL_law_697 dL_law_700 (by decide) (fun H1 locs1 qa qb qd qs => kk H1 locs1 ⟨_, _, m5, qa, qb, qd, qs⟩)
  · exact lz_q C hl dL_law_672 (lz_a C hS hl 1 rfl (by omega) dL_law_673 dL_law_674 dL_law_675 dL_law_676 dL_law_677 (lz_a C hS hl 2 rfl (by omega) dL_law_678 dL_law_679 dL_law_680 dL_law_681 dL_law_682 k))
  · exact lz_m C hl dL_law_686 (lz_a C hS1 hl 1 rfl (by omega) dL_law_687 dL_law_688 dL_law_689 dL_law_690 dL_law_691 (lz_a C hS1 hl 2 rfl (by omega) dL_law_692 dL_law_693 dL_law_694 dL_law_695 dL_law_696 k))
theorem arm_17 {p : Program} {l : Launch} {e : Env} {s : State} {m : MethodId} {below : List Frame} {meth : Method} {c : Code} {b L : Nat} {xs : Nat → Int32} {D : va_G} {cI cZ cJ : ClassId} {A0 : Nat → Prop} (C : LzC p s m c b L xs D cI cZ cJ A0) : LzA p l e s m below meth c b L D cI cZ cJ A0 705 := by
  intro qK qM i t H locs ls ht hi hw hl kk
  obtain ⟨wa, wb, hw, hPa, hPb, hD, hS⟩ := hw
  obtain ⟨r, wb1, m1, m2, m4, m5⟩ := met_buildWork l D ht hw 
  have hts := C.1.2.2.2.2
  refine lz_armR (pc0 := 705) (pc1 := 706) (pc3 := 710) C hl hw.heads hPa hPb hD hS m1 m2 m4 (cwV 0 hts gL_law_X7_buildWork rfl rfl rfl (by decide +kernel) ⟨Nat.le_of_ble_eq_true rfl, Nat.le_of_ble_eq_true rfl⟩) (cwV 0 hts gL_law_X8_buildWork rfl rfl rfl (by decide +kernel) ⟨Nat.le_of_ble_eq_true rfl, Nat.le_of_ble_eq_true rfl⟩) rfl (fun k => ?_) (fun H1 locs1 hS1 k => ?_) dL_law_706 dL_law_710 dL_law_713 (by decide) (fun H1 locs1 qa qb qd qs => kk H1 locs1 ⟨_, _, m5, qa, qb, qd, qs⟩)
  · exact lz_q C hl dL_law_705 k
  · exact lz_m C hl dL_law_709 k
theorem arm_18 {p : Program} {l : Launch} {e : Env} {s : State} {m : MethodId} {below : List Frame} {meth : Method} {c : Code} {b L : Nat} {xs : Nat → Int32} {D : va_G} {cI cZ cJ : ClassId} {A0 : Nat → Prop} (C : LzC p s m c b L xs D cI cZ cJ A0) : LzA p l e s m below meth c b L D cI cZ cJ A0 718 := by
  intro qK qM i t H locs ls ht hi hw hl kk
  obtain ⟨wa, wb, hw, hPa, hPb, hD, hS⟩ := hw
  obtain ⟨r, wb1, m1, m2, m4, m5⟩ := met_plannedWork l D ht hw (avS_rg xs (i + 1))
  have hts := C.1.2.2.2.2
  refine lz_armR (pc0 := 718) (pc1 := 724) (pc3 := 733) C hl hw.heads hPa hPb hD hS m1 m2 m4 (cwV 1 hts gL_law_X7_plannedWork rfl rfl rfl (by decide +kernel) ⟨Nat.le_of_ble_eq_true rfl, Nat.le_of_ble_eq_true rfl⟩) (cwV 1 hts gL_law_X8_plannedWork rfl rfl rfl (by decide +kernel) ⟨Nat.le_of_ble_eq_true rfl, Nat.le_of_ble_eq_true rfl⟩) rfl (fun k => ?_) (fun H1 locs1 hS1 k => ?_) dL_law_724 dL_law_733 dL_law_736 (by decide) (fun H1 locs1 qa qb qd qs => kk H1 locs1 ⟨_, _, m5, qa, qb, qd, qs⟩)
  · exact lz_q C hl dL_law_718 (lz_a C hS hl 1 rfl (by omega) dL_law_719 dL_law_720 dL_law_721 dL_law_722 dL_law_723 k)
  · exact lz_m C hl dL_law_727 (lz_a C hS1 hl 1 rfl (by omega) dL_law_728 dL_law_729 dL_law_730 dL_law_731 dL_law_732 k)
theorem arm_19 {p : Program} {l : Launch} {e : Env} {s : State} {m : MethodId} {below : List Frame} {meth : Method} {c : Code} {b L : Nat} {xs : Nat → Int32} {D : va_G} {cI cZ cJ : ClassId} {A0 : Nat → Prop} (C : LzC p s m c b L xs D cI cZ cJ A0) : LzA p l e s m below meth c b L D cI cZ cJ A0 741 := by
  intro qK qM i t H locs ls ht hi hw hl kk
  obtain ⟨wa, wb, hw, hPa, hPb, hD, hS⟩ := hw
  obtain ⟨r, wb1, m1, m2, m4, m5⟩ := met_rebuildCount l D ht hw 
  have hts := C.1.2.2.2.2
  refine lz_armR (pc0 := 741) (pc1 := 742) (pc3 := 746) C hl hw.heads hPa hPb hD hS m1 m2 m4 (cwV 0 hts gL_law_X7_rebuildCount rfl rfl rfl (by decide +kernel) ⟨Nat.le_of_ble_eq_true rfl, Nat.le_of_ble_eq_true rfl⟩) (cwV 0 hts gL_law_X8_rebuildCount rfl rfl rfl (by decide +kernel) ⟨Nat.le_of_ble_eq_true rfl, Nat.le_of_ble_eq_true rfl⟩) rfl (fun k => ?_) (fun H1 locs1 hS1 k => ?_) dL_law_742 dL_law_746 dL_law_749 (by decide) (fun H1 locs1 qa qb qd qs => kk H1 locs1 ⟨_, _, m5, qa, qb, qd, qs⟩)
  · exact lz_q C hl dL_law_741 k
  · exact lz_m C hl dL_law_745 k
