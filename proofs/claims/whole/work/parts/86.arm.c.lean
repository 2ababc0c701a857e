theorem arm_20 {p : Program} {l : Launch} {e : Env} {s : State} {m : MethodId} {below : List Frame} {meth : Method} {c : Code} {b L : Nat} {xs : Nat → Int32} {D : va_G} {cI cZ cJ : ClassId} {A0 : Nat → Prop} (C : LzC p s m c b L xs D cI cZ cJ A0) : LzA p l e s m below meth c b L D cI cZ cJ A0 754 := by
  intro qK qM i t H locs ls ht hi hw hl kk
  obtain ⟨wa, wb, hw, hPa, hPb, hD, hS⟩ := hw
  obtain ⟨r, wa1, wb1, m1, m2, m3, m4, m5⟩ := met_scan l D ht hw (avS_rg xs (i + 1))
  have hts := C.1.2.2.2.2
  refine lz_armW (pc0 := 754) (pc1 := 760) (pc3 := 769) C hl hw.heads hPa hPb hD hS m1 m2 m3 m4 (cwV 1 hts gL_law_X7_scan rfl rfl rfl (by decide +kernel) ⟨Nat.le_of_ble_eq_true rfl, Nat.le_of_ble_eq_true rfl⟩) (cwV 1 hts gL_law_X8_scan rfl rfl rfl (by decide +kernel) ⟨Nat.le_of_ble_eq_true rfl, Nat.le_of_ble_eq_true rfl⟩) rfl (fun k => ?_) (fun H1 locs1 hS1 k => ?_) dL_law_760 dL_law_769 dL_law_772 (by decide) (fun H1 locs1 qa qb qd qs => kk H1 locs1 ⟨_, _, m5, qa, qb, qd, qs⟩)
  · exact lz_q C hl dL_law_754 (lz_a C hS hl 1 rfl (by omega) dL_law_755 dL_law_756 dL_law_757 dL_law_758 dL_law_759 k)
  · exact lz_m C hl dL_law_763 (lz_a C hS1 hl 1 rfl (by omega) dL_law_764 dL_law_765 dL_law_766 dL_law_767 dL_law_768 k)
theorem arm_21 {p : Program} {l : Launch} {e : Env} {s : State} {m : MethodId} {below : List Frame} {meth : Method} {c : Code} {b L : Nat} {xs : Nat → Int32} {D : va_G} {cI cZ cJ : ClassId} {A0 : Nat → Prop} (C : LzC p s m c b L xs D cI cZ cJ A0) : LzA p l e s m below meth c b L D cI cZ cJ A0 777 := by
  intro qK qM i t H locs ls ht hi hw hl kk
  obtain ⟨wa, wb, hw, hPa, hPb, hD, hS⟩ := hw
  obtain ⟨r, wa1, wb1, m1, m2, m3, m4, m5⟩ := met_resetStream l D ht hw 
  have hts := C.1.2.2.2.2
  refine lz_armW (pc0 := 777) (pc1 := 778) (pc3 := 782) C hl hw.heads hPa hPb hD hS m1 m2 m3 m4 (cwV 0 hts gL_law_X7_resetStream rfl rfl rfl (by decide +kernel) ⟨Nat.le_of_ble_eq_true rfl, Nat.le_of_ble_eq_true rfl⟩) (cwV 0 hts gL_law_X8_resetStream rfl rfl rfl (by decide +kernel) ⟨Nat.le_of_ble_eq_true rfl, Nat.le_of_ble_eq_true rfl⟩) rfl (fun k => ?_) (fun H1 locs1 hS1 k => ?_) dL_law_778 dL_law_782 dL_law_785 (by decide) (fun H1 locs1 qa qb qd qs => kk H1 locs1 ⟨_, _, m5, qa, qb, qd, qs⟩)
  · exact lz_q C hl dL_law_777 k
  · exact lz_m C hl dL_law_781 k
theorem arm_22 {p : Program} {l : Launch} {e : Env} {s : State} {m : MethodId} {below : List Frame} {meth : Method} {c : Code} {b L : Nat} {xs : Nat → Int32} {D : va_G} {cI cZ cJ : ClassId} {A0 : Nat → Prop} (C : LzC p s m c b L xs D cI cZ cJ A0) : LzA p l e s m below meth c b L D cI cZ cJ A0 790 := by
  intro qK qM i t H locs ls ht hi hw hl kk
  obtain ⟨wa, wb, hw, hPa, hPb, hD, hS⟩ := hw
  obtain ⟨r, wb1, m1, m2, m4, m5⟩ := met_streamLength l D ht hw 
  have hts := C.1.2.2.2.2
  refine lz_armR (pc0 := 790) (pc1 := 791) (pc3 := 795) C hl hw.heads hPa hPb hD hS m1 m2 m4 (cwV 0 hts gL_law_X7_streamLength rfl rfl rfl (by decide +kernel) ⟨Nat.le_of_ble_eq_true rfl, Nat.le_of_ble_eq_true rfl⟩) (cwV 0 hts gL_law_X8_streamLength rfl rfl rfl (by decide +kernel) ⟨Nat.le_of_ble_eq_true rfl, Nat.le_of_ble_eq_true rfl⟩) rfl (fun k => ?_) (fun H1 locs1 hS1 k => ?_) dL_law_791 dL_law_795 dL_law_798 (by decide) (fun H1 locs1 qa qb qd qs => kk H1 locs1 ⟨_, _, m5, qa, qb, qd, qs⟩)
  · exact lz_q C hl dL_law_790 k
  · exact lz_m C hl dL_law_794 k
theorem arm_23 {p : Program} {l : Launch} {e : Env} {s : State} {m : MethodId} {below : List Frame} {meth : Method} {c : Code} {b L : Nat} {xs : Nat → Int32} {D : va_G} {cI cZ cJ : ClassId} {A0 : Nat → Prop} (C : LzC p s m c b L xs D cI cZ cJ A0) : LzA p l e s m below meth c b L D cI cZ cJ A0 803 := by
  intro qK qM i t H locs ls ht hi hw hl kk
  obtain ⟨wa, wb, hw, hPa, hPb, hD, hS⟩ := hw
  obtain ⟨r, wb1, m1, m2, m4, m5⟩ := met_streamByte l D ht hw (avS_rg xs (i + 1))
  have hts := C.1.2.2.2.2
  refine lz_armR (pc0 := 803) (pc1 := 809) (pc3 := 818) C hl hw.heads hPa hPb hD hS m1 m2 m4 (cwV 1 hts gL_law_X7_streamByte rfl rfl rfl (by decide +kernel) ⟨Nat.le_of_ble_eq_true rfl, Nat.le_of_ble_eq_true rfl⟩) (cwV 1 hts gL_law_X8_streamByte rfl rfl rfl (by decide +kernel) ⟨Nat.le_of_ble_eq_true rfl, Nat.le_of_ble_eq_true rfl⟩) rfl (fun k => ?_) (fun H1 locs1 hS1 k => ?_) dL_law_809 dL_law_818 dL_law_821 (by decide) (fun H1 locs1 qa qb qd qs => kk H1 locs1 ⟨_, _, m5, qa, qb, qd, qs⟩)
  · exact lz_q C hl dL_law_803 (lz_a C hS hl 1 rfl (by omega) dL_law_804 dL_law_805 dL_law_806 dL_law_807 dL_law_808 k)
  · exact lz_m C hl dL_law_812 (lz_a C hS1 hl 1 rfl (by omega) dL_law_813 dL_law_814 dL_law_815 dL_law_816 dL_law_817 k)
theorem arm_24 {p : Program} {l : Launch} {e : Env} {s : State} {m : MethodId} {below : List Frame} {meth : Method} {c : Code} {b L : Nat} {xs : Nat → Int32} {D : va_G} {cI cZ cJ : ClassId} {A0 : Nat → Prop} (C : LzC p s m c b L xs D cI cZ cJ A0) : LzA p l e s m below meth c b L D cI cZ cJ A0 826 := by
  intro qK qM i t H locs ls ht hi hw hl kk
  obtain ⟨wa, wb, hw, hPa, hPb, hD, hS⟩ := hw
  obtain ⟨r, wb1, m1, m2, m4, m5⟩ := met_reportCount l D ht hw 
  have hts := C.1.2.2.2.2
  refine lz_armR (pc0 := 826) (pc1 := 827) (pc3 := 831) C hl hw.heads hPa hPb hD hS m1 m2 m4 (cwV 0 hts gL_law_X7_reportCount rfl rfl rfl (by decide +kernel) ⟨Nat.le_of_ble_eq_true rfl, Nat.le_of_ble_eq_true rfl⟩) (cwV 0 hts gL_law_X8_reportCount rfl rfl rfl (by decide +kernel) ⟨Nat.le_of_ble_eq_true rfl, Nat.le_of_ble_eq_true rfl⟩) rfl (fun k => ?_) (fun H1 locs1 hS1 k => ?_) dL_law_827 dL_law_831 dL_law_834 (by decide) (fun H1 locs1 qa qb qd qs => kk H1 locs1 ⟨_, _, m5, qa, qb, qd, qs⟩)
  · exact lz_q C hl dL_law_826 k
  · exact lz_m C hl dL_law_830 k
theorem arm_25 {p : Program} {l : Launch} {e : Env} {s : State} {m : MethodId} {below : List Frame} {meth : Method} {c : Code} {b L : Nat} {xs : Nat → Int32} {D : va_G} {cI cZ cJ : ClassId} {A0 : Nat → Prop} (C : LzC p s m c b L xs D cI cZ cJ A0) : LzA p l e s m below meth c b L D cI cZ cJ A0 839 := by
  intro qK qM i t H locs ls ht hi hw hl kk
  obtain ⟨wa, wb, hw, hPa, hPb, hD, hS⟩ := hw
  obtain ⟨r, wb1, m1, m2, m4, m5⟩ := met_reportEnd l D ht hw (avS_rg xs (i + 1))
  have hts := C.1.2.2.2.2
  refine lz_armR (pc0 := 839) (pc1 := 845) (pc3 := 854) C hl hw.heads hPa hPb hD hS m1 m2 m4 (cwV 1 hts gL_law_X7_reportEnd rfl rfl rfl (by decide +kernel) ⟨Nat.le_of_ble_eq_true rfl, Nat.le_of_ble_eq_true rfl⟩) (cwV 1 hts gL_law_X8_reportEnd rfl rfl rfl (by decide +kernel) ⟨Nat.le_of_ble_eq_true rfl, Nat.le_of_ble_eq_true rfl⟩) rfl (fun k => ?_) (fun H1 locs1 hS1 k => ?_) dL_law_845 dL_law_854 dL_law_857 (by decide) (fun H1 locs1 qa qb qd qs => kk H1 locs1 ⟨_, _, m5, qa, qb, qd, qs⟩)
  · exact lz_q C hl dL_law_839 (lz_a C hS hl 1 rfl (by omega) dL_law_840 dL_law_841 dL_law_842 dL_law_843 dL_law_844 k)
  · exact lz_m C hl dL_law_848 (lz_a C hS1 hl 1 rfl (by omega) dL_law_849 dL_law_850 dL_law_851 dL_law_852 dL_law_853 k)
theorem arm_26 {p : Program} {l : Launch} {e : Env} {s : State} {m : MethodId} {below : List Frame} {meth : Method} {c : Code} {b L : Nat} {xs : Nat → Int32} {D : va_G} {cI cZ cJ : ClassId} {A0 : Nat → Prop} (C : LzC p s m c b L xs D cI cZ cJ A0) : LzA p l e s m below meth c b L D cI cZ cJ A0 862 := by
  intro qK qM i t H locs ls ht hi hw hl kk
  obtain ⟨wa, wb, hw, hPa, hPb, hD, hS⟩ := hw
  obtain ⟨r, wb1, m1, m2, m4, m5⟩ := met_reportKeyword l D ht hw (avS_rg xs (i + 1))
  have hts := C.1.2.2.2.2
  refine lz_armR (pc0 := 862) (pc1 := 868) (pc3 := 877) C hl hw.heads hPa hPb hD hS m1 m2 m4 (cwV 1 hts gL_law_X7_reportKeyword rfl rfl rfl (by decide +kernel) ⟨Nat.le_of_ble_eq_true rfl, Nat.le_of_ble_eq_true rfl⟩) (cwV 1 hts gL_law_X8_reportKeyword rfl rfl rfl (by decide +kernel) ⟨Nat.le_of_ble_eq_true rfl, Nat.le_of_ble_eq_true rfl⟩) rfl (fun k => ?_) (fun H1 locs1 hS1 k => ?_) dL_law_868 dL_law_877 dL_law_880 (by decide) (fun H1 locs1 qa qb qd qs => kk H1 locs1 ⟨_, _, m5, qa, qb, qd, qs⟩)
  · exact lz_q C hl dL_law_862 (lz_a C hS hl 1 rfl (by omega) dL_law_863 dL_law_864 dL_law_865 dL_law_866 dL_law_867 k)
  · exact lz_m C hl dL_law_871 (lz_a C hS1 hl 1 rfl (by omega) dL_law_872 dL_law_873 dL_law_874 dL_law_875 dL_law_876 k)
theorem arm_27 {p : Program} {l : Launch} {e : Env} {s : State} {m : MethodId} {below : List Frame} {meth : Method} {c : Code} {b L : Nat} {xs : Nat → Int32} {D : va_G} {cI cZ cJ : ClassId} {A0 : Nat → Prop} (C : LzC p s m c b L xs D cI cZ cJ A0) : LzA p l e s m below meth c b L D cI cZ cJ A0 885 := by
  intro qK qM i t H locs ls ht hi hw hl kk
  obtain ⟨wa, wb, hw, hPa, hPb, hD, hS⟩ := hw
  obtain ⟨r, wb1, m1, m2, m4, m5⟩ := met_matchCount l D ht hw 
  have hts := C.1.2.2.2.2
  refine lz_armR (pc0 := 885) (pc1 := 886) (pc3 := 890) C hl hw.heads hPa hPb hD hS m1 m2 m4 (cwV 0 hts gL_law_X7_matchCount rfl rfl rfl (by decide +kernel) ⟨Nat.le_of_ble_eq_true rfl, Nat.le_of_ble_eq_true rfl⟩) (cwV 0 hts gL_law_X8_matchCount rfl rfl rfl (by decide +kernel) ⟨Nat.le_of_ble_eq_true rfl, Nat.le_of_ble_eq_true rfl⟩) rfl (fun k => ?_) (fun H1 locs1 hS1 k => ?_) dL_law_886 dL_law_890 dL_law_893 (by decide) (fun H1 locs1 qa qb qd qs => kk H1 locs1 ⟨_, _, m5, qa, qb, qd, qs⟩)
  · exact lz_q C hl dL_law_885 k
  · exact lz_m C hl dL_law_889 k
theorem arm_28 {p : Program} {l : Launch} {e : Env} {s : State} {m : MethodId} {below : List Frame} {meth : Method} {c : Code} {b L : Nat} {xs : Nat → Int32} {D : va_G} {cI cZ cJ : ClassId} {A0 : Nat → Prop} (C : LzC p s m c b L xs D cI cZ cJ A0) : LzA p l e s m below meth c b L D cI cZ cJ A0 898 := by
  intro qK qM i t H locs ls ht hi hw hl kk
  obtain ⟨wa, wb, hw, hPa, hPb, hD, hS⟩ := hw
  obtain ⟨r, wb1, m1, m2, m4, m5⟩ := met_matchCountOf l D ht hw (avS_rg xs (i + 1))
  have hts := C.1.2.2.2.2
  refine lz_armR (pc0 := 898) (pc1 := 904) (pc3 := 913) C hl hw.heads hPa hPb hD hS m1 m2 m4 (cwV 1 hts gL_law_X7_matchCountOf rfl rfl rfl (by decide +kernel) ⟨Nat.le_of_ble_eq_true rfl, Nat.le_of_ble_eq_true rfl⟩) (cwV 1 hts gL_law_X8_matchCountOf rfl rfl rfl (by decide +kernel) ⟨Nat.le_of_ble_eq_true rfl, Nat.le_of_ble_eq_true rfl⟩) rfl (fun k => ?_) (fun H1 locs1 hS1 k => ?_) dL_law_904 dL_law_913 dL_law_916 (by decide) (fun H1 locs1 qa qb qd qs => kk H1 locs1 ⟨_, _, m5, qa, qb, qd, qs⟩)
  · exact lz_q C hl dL_law_898 (lz_a C hS hl 1 rfl (by omega) dL_law_899 dL_law_900 dL_law_901 dL_law_902 dL_law_903 k)
  · exact lz_m C hl dL_law_907 (lz_a C hS1 hl 1 rfl (by omega) dL_law_908 dL_law_909 dL_law_910 dL_law_911 dL_law_912 k)
theorem arm_29 {p : Program} {l : Launch} {e : Env} {s : State} {m : MethodId} {below : List Frame} {meth : Method} {c : Code} {b L : Nat} {xs : Nat → Int32} {D : va_G} {cI cZ cJ : ClassId} {A0 : Nat → Prop} (C : LzC p s m c b L xs D cI cZ cJ A0) : LzA p l e s m below meth c b L D cI cZ cJ A0 921 := by
  intro qK qM i t H locs ls ht hi hw hl kk
  obtain ⟨wa, wb, hw, hPa, hPb, hD, hS⟩ := hw
  obtain ⟨r, wb1, m1, m2, m4, m5⟩ := met_nextMatch l D ht hw (avS_rg xs (i + 1)) (avS_rg xs (i + 2))
  have hts := C.1.2.2.2.2
  refine lz_armR (pc0 := 921) (pc1 := 932) (pc3 := 946) C hl hw.heads hPa hPb hD hS m1 m2 m4 (cwV 2 hts gL_law_X7_nextMatch rfl rfl rfl (by decide +kernel) ⟨Nat.le_of_ble_eq_true rfl, Nat.le_of_ble_eq_true rfl⟩) (cwV 2 hts gL_law_X8_nextMatch rfl rfl rfl (by decide +kernel) ⟨Nat.le_of_ble_eq_true rfl, Nat.le_of_ble_eq_true rfl⟩) rfl (fun k => ?_) (fun H1 locs1 hS1 k => ?_) dL_law_932 dL_law_946 dL_law_949 (by decide) (fun H1 locs1 qa qb qd qs => kk H1 locs1 ⟨_, _, m5, qa, qb, qd, qs⟩)
  · exact lz_q C hl dL_law_921 (lz_a C hS hl 1 rfl (by omega) dL_law_922 dL_law_923 dL_law_924 dL_law_925 dL_law_926 (lz_a C hS hl 2 rfl (by omega) dL_law_927 dL_law_928 dL_law_929 dL_law_930 dL_law_931 k))
  · exact lz_m C hl dL_law_935 (lz_a C hS1 hl 1 rfl (by omega) dL_law_936 dL_law_937 dL_law_938 dL_law_939 dL_law_940 (lz_a C hS1 hl 2 rfl (by omega) dL_law_941 dL_law_942 dL_law_943 dL_law_944 dL_law_945 k))
