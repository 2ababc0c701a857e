theorem met_overlappingPairs (l : Launch) (D : va_G) {cI cZ cJ : ClassId} {qK qM t : Nat} {wa wb : va_W} (ht : t ≤ 600) (hw : LW cI cZ cJ qK qM t wa wb) : ∃ (r : Int) (wa1 wb1 : va_W), (∀ sz : Nat, Met l yX7_overlappingPairs wsX7_overlappingPairs rm_X7_overlappingPairs (PW D vwCl [(cI, .int), (cZ, .boolean), (cJ, .long)] [.ref qK] wa sz) (QW D vwCl (some (.int (iI r))) wa1 (va_A wa sz)) 0 0 (va_A wa sz)) ∧ (∀ sz : Nat, Met l yX8_overlappingPairs wsX8_overlappingPairs rm_X8_overlappingPairs (PW D vwCl [(cI, .int), (cZ, .boolean), (cJ, .long)] [.ref qM] wb sz) (QW D vwCl (some (.int (iI r))) wb1 (va_A wb sz)) 0 0 (va_A wb sz)) ∧ wa1.map Prod.fst = wa.map Prod.fst ∧ wb1.map Prod.fst = wb.map Prod.fst ∧ LW cI cZ cJ qK qM (t + 1) wa1 wb1 := by
  obtain ⟨adK, adM, work, reb, rep, on, bl, gv, al, mc, rc, slots, built, ar, spl, sl, sz, th, gfr, gsz, els, ws, laid, tm, sw, buf, bytes, len, wt, live, mem, rmem, st, ln, ov, area, spare, str, words, rE, rK, pos, num, dep, bf, size, list, moved, pl, starts, kat, el, lg, hd, tl, nx, sk, ls, whole, ed, cA, wA, nA, tA, tak, rfl, rfl, rfl, rfl, hI, hS⟩ := hw
  obtain ⟨a1, a2, a3, a4, a5, a6, a7, a8, a9, b1, b2, b3, b4, b5⟩ := id hI
  have hg0 := a4.1
  have hg1 := a4.2.1
  have hcn := a7.rg
  have hcl : cntL live gv.toNat ≤ 40 := by have := a7.2.1; omega
  obtain ⟨r, d2, s2, k2, h7, h8⟩ := op_overlappingPairs (gv := gv) (on := on) (sl := sl) (th := th) (len := len) (bytes := bytes) (wt := wt) (live := live) (str := str) (words := words) (starts := starts) (kat := kat) (depths := dep) a4 a5 (by omega) (by omega) (by omega) (by omega) (rb_of b3) b4
  exact ⟨r, _, _, fun sz => c_X7_overlappingPairs l D cI cZ cJ h7, fun sz => c_X8_overlappingPairs l D cI cZ cJ h8, rfl, rfl, adK, adM, _, _, _, _, _, _, _, _, _, _, _, _, _, _, _, _, _, _, _, _, _, _, _, _, _, _, _, _, _, _, _, _, _, _, _, _, _, _, _, _, _, _, _, _, _, _, _, _, _, _, _, _, _, _, _, _, _, _, _, _, _, _, _, rfl, rfl, rfl, rfl, hI.mono, hS⟩
theorem met_maximumDepth (l : Launch) (D : va_G) {cI cZ cJ : ClassId} {qK qM t : Nat} {wa wb : va_W} (ht : t ≤ 600) (hw : LW cI cZ cJ qK qM t wa wb) : ∃ (r : Int) (wa1 wb1 : va_W), (∀ sz : Nat, Met l yX7_maximumDepth wsX7_maximumDepth rm_X7_maximumDepth (PW D vwCl [(cI, .int), (cZ, .boolean), (cJ, .long)] [.ref qK] wa sz) (QW D vwCl (some (.int (iI r))) wa1 (va_A wa sz)) 0 0 (va_A wa sz)) ∧ (∀ sz : Nat, Met l yX8_maximumDepth wsX8_maximumDepth rm_X8_maximumDepth (PW D vwCl [(cI, .int), (cZ, .boolean), (cJ, .long)] [.ref qM] wb sz) (QW D vwCl (some (.int (iI r))) wb1 (va_A wb sz)) 0 0 (va_A wb sz)) ∧ wa1.map Prod.fst = wa.map Prod.fst ∧ wb1.map Prod.fst = wb.map Prod.fst ∧ LW cI cZ cJ qK qM (t + 1) wa1 wb1 := by
  obtain ⟨adK, adM, work, reb, rep, on, bl, gv, al, mc, rc, slots, built, ar, spl, sl, sz, th, gfr, gsz, els, ws, laid, tm, sw, buf, bytes, len, wt, live, mem, rmem, st, ln, ov, area, spare, str, words, rE, rK, pos, num, dep, bf, size, list, moved, pl, starts, kat, el, lg, hd, tl, nx, sk, ls, whole, ed, cA, wA, nA, tA, tak, rfl, rfl, rfl, rfl, hI, hS⟩ := hw
  obtain ⟨a1, a2, a3, a4, a5, a6, a7, a8, a9, b1, b2, b3, b4, b5⟩ := id hI
  have hg0 := a4.1
  have hg1 := a4.2.1
  have hcn := a7.rg
  have hcl : cntL live gv.toNat ≤ 40 := by have := a7.2.1; omega
  obtain ⟨r, d2, s2, k2, h7, h8⟩ := op_maximumDepth (gv := gv) (on := on) (sl := sl) (th := th) (len := len) (bytes := bytes) (wt := wt) (live := live) (str := str) (words := words) (starts := starts) (kat := kat) (depths := dep) a4 a5 (by omega) (by omega) (by omega) (by omega) (rb_of b3) b4
  exact ⟨r, _, _, fun sz => c_X7_maximumDepth l D cI cZ cJ h7, fun sz => c_X8_maximumDepth l D cI cZ cJ h8, rfl, rfl, adK, adM, _, _, _, _, _, _, _, _, _, _, _, _, _, _, _, _, _, _, _, _, _, _, _, _, _, _, _, _, _, _, _, _, _, _, _, _, _, _, _, _, _, _, _, _, _, _, _, _, _, _, _, _, _, _, _, _, _, _, _, _, _, _, _, rfl, rfl, rfl, rfl, hI.mono, hS⟩
theorem met_containedMatches (l : Launch) (D : va_G) {cI cZ cJ : ClassId} {qK qM t : Nat} {wa wb : va_W} (ht : t ≤ 600) (hw : LW cI cZ cJ qK qM t wa wb) : ∃ (r : Int) (wb1 : va_W), Met l yX7_containedMatches wsX7_containedMatches rm_X7_containedMatches (PR D vwCl [(cI, .int), (cZ, .boolean), (cJ, .long)] [.ref qK] wa) (QR (some (.int (iI r)))) 0 0 (fun _ => False) ∧ (∀ sz : Nat, Met l yX8_containedMatches wsX8_containedMatches rm_X8_containedMatches (PW D vwCl [(cI, .int), (cZ, .boolean), (cJ, .long)] [.ref qM] wb sz) (QW D vwCl (some (.int (iI r))) wb1 (va_A wb sz)) 0 0 (va_A wb sz)) ∧ wb1.map Prod.fst = wb.map Prod.fst ∧ LW cI cZ cJ qK qM (t + 1) wa wb1 := by
  obtain ⟨adK, adM, work, reb, rep, on, bl, gv, al, mc, rc, slots, built, ar, spl, sl, sz, th, gfr, gsz, els, ws, laid, tm, sw, buf, bytes, len, wt, live, mem, rmem, st, ln, ov, area, spare, str, words, rE, rK, pos, num, dep, bf, size, list, moved, pl, starts, kat, el, lg, hd, tl, nx, sk, ls, whole, ed, cA, wA, nA, tA, tak, rfl, rfl, rfl, rfl, hI, hS⟩ := hw
  obtain ⟨a1, a2, a3, a4, a5, a6, a7, a8, a9, b1, b2, b3, b4, b5⟩ := id hI
  have hg0 := a4.1
  have hg1 := a4.2.1
  have hcn := a7.rg
  have hcl : cntL live gv.toNat ≤ 40 := by have := a7.2.1; omega
  obtain ⟨r, s2, k2, h7, h8⟩ := op_containedMatches (gv := gv) (on := on) (sl := sl) (th := th) (len := len) (bytes := bytes) (wt := wt) (live := live) (str := str) (words := words) (starts := starts) (kat := kat) a4 a5 (by omega) (by omega) (by omega) (by omega) (rb_of b3) b4
  exact ⟨r, _, c_X7_containedMatches l D cI cZ cJ h7, fun sz => c_X8_containedMatches l D cI cZ cJ h8, rfl, adK, adM, _, _, _, _, _, _, _, _, _, _, _, _, _, _, _, _, _, _, _, _, _, _, _, _, _, _, _, _, _, _, _, _, _, _, _, _, _, _, _, _, _, _, _, _, _, _, _, _, _, _, _, _, _, _, _, _, _, _, _, _, _, _, _, rfl, rfl, rfl, rfl, hI.mono, hS⟩
theorem met_gapLength (l : Launch) (D : va_G) {cI cZ cJ : ClassId} {qK qM t : Nat} {wa wb : va_W} (ht : t ≤ 600) (hw : LW cI cZ cJ qK qM t wa wb) : ∃ (r : Int) (wa1 wb1 : va_W), (∀ sz : Nat, Met l yX7_gapLength wsX7_gapLength rm_X7_gapLength (PW D vwCl [(cI, .int), (cZ, .boolean), (cJ, .long)] [.ref qK] wa sz) (QW D vwCl (some (.int (iI r))) wa1 (va_A wa sz)) 0 0 (va_A wa sz)) ∧ (∀ sz : Nat, Met l yX8_gapLength wsX8_gapLength rm_X8_gapLength (PW D vwCl [(cI, .int), (cZ, .boolean), (cJ, .long)] [.ref qM] wb sz) (QW D vwCl (some (.int (iI r))) wb1 (va_A wb sz)) 0 0 (va_A wb sz)) ∧ wa1.map Prod.fst = wa.map Prod.fst ∧ wb1.map Prod.fst = wb.map Prod.fst ∧ LW cI cZ cJ qK qM (t + 1) wa1 wb1 := by
  obtain ⟨adK, adM, work, reb, rep, on, bl, gv, al, mc, rc, slots, built, ar, spl, sl, sz, th, gfr, gsz, els, ws, laid, tm, sw, buf, bytes, len, wt, live, mem, rmem, st, ln, ov, area, spare, str, words, rE, rK, pos, num, dep, bf, size, list, moved, pl, starts, kat, el, lg, hd, tl, nx, sk, ls, whole, ed, cA, wA, nA, tA, tak, rfl, rfl, rfl, rfl, hI, hS⟩ := hw
  obtain ⟨a1, a2, a3, a4, a5, a6, a7, a8, a9, b1, b2, b3, b4, b5⟩ := id hI
  have hg0 := a4.1
  have hg1 := a4.2.1
  have hcn := a7.rg
  have hcl : cntL live gv.toNat ≤ 40 := by have := a7.2.1; omega
  obtain ⟨r, d2, a2, b2, s2, k2, h7, h8⟩ := op_gapLength (gv := gv) (on := on) (sl := sl) (th := th) (gfr := gfr) (gsz := gsz) (len := len) (bytes := bytes) (wt := wt) (live := live) (str := str) (words := words) (starts := starts) (kat := kat) (depths := dep) a4 a5 (by omega) (by omega) (by omega) (by omega) (rb_of b3) b4
  exact ⟨r, _, _, fun sz => c_X7_gapLength l D cI cZ cJ h7, fun sz => c_X8_gapLength l D cI cZ cJ h8, rfl, rfl, adK, adM, _, _, _, _, _, _, _, _, _, _, _, _, _, _, _, _, _, _, _, _, _, _, _, _, _, _, _, _, _, _, _, _, _, _, _, _, _, _, _, _, _, _, _, _, _, _, _, _, _, _, _, _, _, _, _, _, _, _, _, _, _, _, _, rfl, rfl, rfl, rfl, hI.mono, hS⟩
theorem met_gapStart (l : Launch) (D : va_G) {cI cZ cJ : ClassId} {qK qM t : Nat} {wa wb : va_W} (ht : t ≤ 600) (hw : LW cI cZ cJ qK qM t wa wb) : ∃ (r : Int) (wa1 wb1 : va_W), (∀ sz : Nat, Met l yX7_gapStart wsX7_gapStart rm_X7_gapStart (PW D vwCl [(cI, .int), (cZ, .boolean), (cJ, .long)] [.ref qK] wa sz) (QW D vwCl (some (.int (iI r))) wa1 (va_A wa sz)) 0 0 (va_A wa sz)) ∧ (∀ sz : Nat, Met l yX8_gapStart wsX8_gapStart rm_X8_gapStart (PW D vwCl [(cI, .int), (cZ, .boolean), (cJ, .long)] [.ref qM] wb sz) (QW D vwCl (some (.int (iI r))) wb1 (va_A wb sz)) 0 0 (va_A wb sz)) ∧ wa1.map Prod.fst = wa.map Prod.fst ∧ wb1.map Prod.fst = wb.map Prod.fst ∧ LW cI cZ cJ qK qM (t + 1) wa1 wb1 := by
  obtain ⟨adK, adM, work, reb, rep, on, bl, gv, al, mc, rc, slots, built, ar, spl, sl, sz, th, gfr, gsz, els, ws, laid, tm, sw, buf, bytes, len, wt, live, mem, rmem, st, ln, ov, area, spare, str, words, rE, rK, pos, num, dep, bf, size, list, moved, pl, starts, kat, el, lg, hd, tl, nx, sk, ls, whole, ed, cA, wA, nA, tA, tak, rfl, rfl, rfl, rfl, hI, hS⟩ := hw
  obtain ⟨a1, a2, a3, a4, a5, a6, a7, a8, a9, b1, b2, b3, b4, b5⟩ := id hI
  have hg0 := a4.1
  have hg1 := a4.2.1
  have hcn := a7.rg
  have hcl : cntL live gv.toNat ≤ 40 := by have := a7.2.1; omega
  obtain ⟨r, d2, a2, b2, s2, k2, h7, h8⟩ := op_gapStart (gv := gv) (on := on) (sl := sl) (th := th) (gfr := gfr) (gsz := gsz) (len := len) (bytes := bytes) (wt := wt) (live := live) (str := str) (words := words) (starts := starts) (kat := kat) (depths := dep) a4 a5 (by omega) (by omega) (by omega) (by omega) (rb_of b3) b4
  exact ⟨r, _, _, fun sz => c_X7_gapStart l D cI cZ cJ h7, fun sz => c_X8_gapStart l D cI cZ cJ h8, rfl, rfl, adK, adM, _, _, _, _, _, _, _, _, _, _, _, _, _, _, _, _, _, _, _, _, _, _, _, _, _, _, _, _, _, _, _, _, _, _, _, _, _, _, _, _, _, _, _, _, _, _, _, _, _, _, _, _, _, _, _, _, _, _, _, _, _, _, _, rfl, rfl, rfl, rfl, hI.mono, hS⟩
theorem met_overlapLength (l : Launch) (D : va_G) {cI cZ cJ : ClassId} {qK qM t : Nat} {wa wb : va_W} (ht : t ≤ 600) (hw : LW cI cZ cJ qK qM t wa wb) {q1 q2 : Int} (hq1 : rgA q1) (hq2 : rgA q2) : ∃ (r : Int) (wb1 : va_W), Met l yX7_overlapLength wsX7_overlapLength rm_X7_overlapLength (PR D vwCl [(cI, .int), (cZ, .boolean), (cJ, .long)] [.ref qK, .int (iI q1), .int (iI q2)] wa) (QR (some (.int (iI r)))) 0 0 (fun _ => False) ∧ (∀ sz : Nat, Met l yX8_overlapLength wsX8_overlapLength rm_X8_overlapLength (PW D vwCl [(cI, .int), (cZ, .boolean), (cJ, .long)] [.ref qM, .int (iI q1), .int (iI q2)] wb sz) (QW D vwCl (some (.int (iI r))) wb1 (va_A wb sz)) 0 0 (va_A wb sz)) ∧ wb1.map Prod.fst = wb.map Prod.fst ∧ LW cI cZ cJ qK qM (t + 1) wa wb1 := by
  obtain ⟨adK, adM, work, reb, rep, on, bl, gv, al, mc, rc, slots, built, ar, spl, sl, sz, th, gfr, gsz, els, ws, laid, tm, sw, buf, bytes, len, wt, live, mem, rmem, st, ln, ov, area, spare, str, words, rE, rK, pos, num, dep, bf, size, list, moved, pl, starts, kat, el, lg, hd, tl, nx, sk, ls, whole, ed, cA, wA, nA, tA, tak, rfl, rfl, rfl, rfl, hI, hS⟩ := hw
  obtain ⟨a1, a2, a3, a4, a5, a6, a7, a8, a9, b1, b2, b3, b4, b5⟩ := id hI
  have hg0 := a4.1
  have hg1 := a4.2.1
  have hcn := a7.rg
  have hcl : cntL live gv.toNat ≤ 40 := by have := a7.2.1; omega
  have hq11 := hq1.1
  have hq12 := hq1.2
  have hq21 := hq2.1
  have hq22 := hq2.2
  obtain ⟨r, h7, h8⟩ := op_overlapLength (gv := gv) (on := on) (x := q1) (y := q2) (th := th) (len := len) (bytes := bytes) (wt := wt) (live := live) a4 (by omega) (by omega) (by omega) (by omega) (by omega) (by omega)
  exact ⟨r, _, c_X7_overlapLength l D cI cZ cJ h7, fun sz => c_X8_overlapLength l D cI cZ cJ h8, rfl, adK, adM, _, _, _, _, _, _, _, _, _, _, _, _, _, _, _, _, _, _, _, _, _, _, _, _, _, _, _, _, _, _, _, _, _, _, _, _, _, _, _, _, _, _, _, _, _, _, _, _, _, _, _, _, _, _, _, _, _, _, _, _, _, _, _, rfl, rfl, rfl, rfl, hI.mono, hS⟩
theorem met_nearMatchCount (l : Launch) (D : va_G) {cI cZ cJ : ClassId} {qK qM t : Nat} {wa wb : va_W} (ht : t ≤ 600) (hw : LW cI cZ cJ qK qM t wa wb) {q1 q2 : Int} (hq1 : rgA q1) (hq2 : rgA q2) : ∃ (r : Int) (wb1 : va_W), Met l yX7_nearMatchCount wsX7_nearMatchCount rm_X7_nearMatchCount (PR D vwCl [(cI, .int), (cZ, .boolean), (cJ, .long)] [.ref qK, .int (iI q1), .int (iI q2)] wa) (QR (some (.int (iI r)))) 0 0 (fun _ => False) ∧ (∀ sz : Nat, Met l yX8_nearMatchCount wsX8_nearMatchCount rm_X8_nearMatchCount (PW D vwCl [(cI, .int), (cZ, .boolean), (cJ, .long)] [.ref qM, .int (iI q1), .int (iI q2)] wb sz) (QW D vwCl (some (.int (iI r))) wb1 (va_A wb sz)) 0 0 (va_A wb sz)) ∧ wb1.map Prod.fst = wb.map Prod.fst ∧ LW cI cZ cJ qK qM (t + 1) wa wb1 := by
  obtain ⟨adK, adM, work, reb, rep, on, bl, gv, al, mc, rc, slots, built, ar, spl, sl, sz, th, gfr, gsz, els, ws, laid, tm, sw, buf, bytes, len, wt, live, mem, rmem, st, ln, ov, area, spare, str, words, rE, rK, pos, num, dep, bf, size, list, moved, pl, starts, kat, el, lg, hd, tl, nx, sk, ls, whole, ed, cA, wA, nA, tA, tak, rfl, rfl, rfl, rfl, hI, hS⟩ := hw
  obtain ⟨a1, a2, a3, a4, a5, a6, a7, a8, a9, b1, b2, b3, b4, b5⟩ := id hI
  have hg0 := a4.1
  have hg1 := a4.2.1
  have hcn := a7.rg
  have hcl : cntL live gv.toNat ≤ 40 := by have := a7.2.1; omega
  have hq11 := hq1.1
  have hq12 := hq1.2
  have hq21 := hq2.1
  have hq22 := hq2.2
  obtain ⟨r, h7, h8⟩ := op_nearMatchCount (gv := gv) (on := on) (k := q1) (m := q2) (sl := sl) (th := th) (len := len) (bytes := bytes) (wt := wt) (live := live) (str := str) a4 (by omega) (by omega) (by omega) (by omega) (rb_of b3) (by omega) (by omega) (by omega) (by omega)
  exact ⟨r, _, c_X7_nearMatchCount l D cI cZ cJ h7, fun sz => c_X8_nearMatchCount l D cI cZ cJ h8, rfl, adK, adM, _, _, _, _, _, _, _, _, _, _, _, _, _, _, _, _, _, _, _, _, _, _, _, _, _, _, _, _, _, _, _, _, _, _, _, _, _, _, _, _, _, _, _, _, _, _, _, _, _, _, _, _, _, _, _, _, _, _, _, _, _, _, _, rfl, rfl, rfl, rfl, hI.mono, hS⟩
theorem met_fewestMismatches (l : Launch) (D : va_G) {cI cZ cJ : ClassId} {qK qM t : Nat} {wa wb : va_W} (ht : t ≤ 600) (hw : LW cI cZ cJ qK qM t wa wb) {q1 : Int} (hq1 : rgA q1) : ∃ (r : Int) (wb1 : va_W), Met l yX7_fewestMismatches wsX7_fewestMismatches rm_X7_fewestMismatches (PR D vwCl [(cI, .int), (cZ, .boolean), (cJ, .long)] [.ref qK, .int (iI q1)] wa) (QR (some (.int (iI r)))) 0 0 (fun _ => False) ∧ (∀ sz : Nat, Met l yX8_fewestMismatches wsX8_fewestMismatches rm_X8_fewestMismatches (PW D vwCl [(cI, .int), (cZ, .boolean), (cJ, .long)] [.ref qM, .int (iI q1)] wb sz) (QW D vwCl (some (.int (iI r))) wb1 (va_A wb sz)) 0 0 (va_A wb sz)) ∧ wb1.map Prod.fst = wb.map Prod.fst ∧ LW cI cZ cJ qK qM (t + 1) wa wb1 := by
  obtain ⟨adK, adM, work, reb, rep, on, bl, gv, al, mc, rc, slots, built, ar, spl, sl, sz, th, gfr, gsz, els, ws, laid, tm, sw, buf, bytes, len, wt, live, mem, rmem, st, ln, ov, area, spare, str, words, rE, rK, pos, num, dep, bf, size, list, moved, pl, starts, kat, el, lg, hd, tl, nx, sk, ls, whole, ed, cA, wA, nA, tA, tak, rfl, rfl, rfl, rfl, hI, hS⟩ := hw
  obtain ⟨a1, a2, a3, a4, a5, a6, a7, a8, a9, b1, b2, b3, b4, b5⟩ := id hI
  have hg0 := a4.1
  have hg1 := a4.2.1
  have hcn := a7.rg
  have hcl : cntL live gv.toNat ≤ 40 := by have := a7.2.1; omega
  have hq11 := hq1.1
  have hq12 := hq1.2
  obtain ⟨r, h7, h8⟩ := op_fewestMismatches (gv := gv) (on := on) (k := q1) (sl := sl) (th := th) (len := len) (bytes := bytes) (wt := wt) (live := live) (str := str) a4 (by omega) (by omega) (by omega) (by omega) (rb_of b3) (by omega) (by omega)
  exact ⟨r, _, c_X7_fewestMismatches l D cI cZ cJ h7, fun sz => c_X8_fewestMismatches l D cI cZ cJ h8, rfl, adK, adM, _, _, _, _, _, _, _, _, _, _, _, _, _, _, _, _, _, _, _, _, _, _, _, _, _, _, _, _, _, _, _, _, _, _, _, _, _, _, _, _, _, _, _, _, _, _, _, _, _, _, _, _, _, _, _, _, _, _, _, _, _, _, _, rfl, rfl, rfl, rfl, hI.mono, hS⟩
theorem met_nearestStart (l : Launch) (D : va_G) {cI cZ cJ : ClassId} {qK qM t : Nat} {wa wb : va_W} (ht : t ≤ 600) (hw : LW cI cZ cJ qK qM t wa wb) {q1 : Int} (hq1 : rgA q1) : ∃ (r : Int) (wb1 : va_W), Met l yX7_nearestStart wsX7_nearestStart rm_X7_nearestStart (PR D vwCl [(cI, .int), (cZ, .boolean), (cJ, .long)] [.ref qK, .int (iI q1)] wa) (QR (some (.int (iI r)))) 0 0 (fun _ => False) ∧ (∀ sz : Nat, Met l yX8_nearestStart wsX8_nearestStart rm_X8_nearestStart (PW D vwCl [(cI, .int), (cZ, .boolean), (cJ, .long)] [.ref qM, .int (iI q1)] wb sz) (QW D vwCl (some (.int (iI r))) wb1 (va_A wb sz)) 0 0 (va_A wb sz)) ∧ wb1.map Prod.fst = wb.map Prod.fst ∧ LW cI cZ cJ qK qM (t + 1) wa wb1 := by
  obtain ⟨adK, adM, work, reb, rep, on, bl, gv, al, mc, rc, slots, built, ar, spl, sl, sz, th, gfr, gsz, els, ws, laid, tm, sw, buf, bytes, len, wt, live, mem, rmem, st, ln, ov, area, spare, str, words, rE, rK, pos, num, dep, bf, size, list, moved, pl, starts, kat, el, lg, hd, tl, nx, sk, ls, whole, ed, cA, wA, nA, tA, tak, rfl, rfl, rfl, rfl, hI, hS⟩ := hw
  obtain ⟨a1, a2, a3, a4, a5, a6, a7, a8, a9, b1, b2, b3, b4, b5⟩ := id hI
  have hg0 := a4.1
  have hg1 := a4.2.1
  have hcn := a7.rg
  have hcl : cntL live gv.toNat ≤ 40 := by have := a7.2.1; omega
  have hq11 := hq1.1
  have hq12 := hq1.2
  obtain ⟨r, h7, h8⟩ := op_nearestStart (gv := gv) (on := on) (k := q1) (sl := sl) (th := th) (len := len) (bytes := bytes) (wt := wt) (live := live) (str := str) a4 (by omega) (by omega) (by omega) (by omega) (rb_of b3) (by omega) (by omega)
  exact ⟨r, _, c_X7_nearestStart l D cI cZ cJ h7, fun sz => c_X8_nearestStart l D cI cZ cJ h8, rfl, adK, adM, _, _, _, _, _, _, _, _, _, _, _, _, _, _, _, _, _, _, _, _, _, _, _, _, _, _, _, _, _, _, _, _, _, _, _, _, _, _, _, _, _, _, _, _, _, _, _, _, _, _, _, _, _, _, _, _, _, _, _, _, _, _, _, rfl, rfl, rfl, rfl, hI.mono, hS⟩
theorem met_superstringLength (l : Launch) (D : va_G) {cI cZ cJ : ClassId} {qK qM t : Nat} {wa wb : va_W} (ht : t ≤ 600) (hw : LW cI cZ cJ qK qM t wa wb) : ∃ (r : Int) (wa1 wb1 : va_W), (∀ sz : Nat, Met l yX7_superstringLength wsX7_superstringLength rm_X7_superstringLength (PW D vwCl [(cI, .int), (cZ, .boolean), (cJ, .long)] [.ref qK] wa sz) (QW D vwCl (some (.int (iI r))) wa1 (va_A wa sz)) 0 0 (va_A wa sz)) ∧ (∀ sz : Nat, Met l yX8_superstringLength wsX8_superstringLength rm_X8_superstringLength (PW D vwCl [(cI, .int), (cZ, .boolean), (cJ, .long)] [.ref qM] wb sz) (QW D vwCl (some (.int (iI r))) wb1 (va_A wb sz)) 0 0 (va_A wb sz)) ∧ wa1.map Prod.fst = wa.map Prod.fst ∧ wb1.map Prod.fst = wb.map Prod.fst ∧ LW cI cZ cJ qK qM (t + 1) wa1 wb1 := by
  obtain ⟨adK, adM, work, reb, rep, on, bl, gv, al, mc, rc, slots, built, ar, spl, sl, sz, th, gfr, gsz, els, ws, laid, tm, sw, buf, bytes, len, wt, live, mem, rmem, st, ln, ov, area, spare, str, words, rE, rK, pos, num, dep, bf, size, list, moved, pl, starts, kat, el, lg, hd, tl, nx, sk, ls, whole, ed, cA, wA, nA, tA, tak, rfl, rfl, rfl, rfl, hI, hS⟩ := hw
  obtain ⟨a1, a2, a3, a4, a5, a6, a7, a8, a9, b1, b2, b3, b4, b5⟩ := id hI
  have hg0 := a4.1
  have hg1 := a4.2.1
  have hcn := a7.rg
  have hcl : cntL live gv.toNat ≤ 40 := by have := a7.2.1; omega
  obtain ⟨r, slots2, built2, sw2, st2, ln2, ov2, al2, area2, spl2, spare2, els2, ws2, laid2, el2, lg2, hd2, tl2, nx2, sk2, ls2, whole2, ed2, h7, h8, c1⟩ := op_superstringLength (on := on) (gv := gv) (th := th) (slots := slots) (built := built) (laid := laid) (al := ar) (spl := spl) (els := els) (ws := ws) (sw := sw) (len := len) (bytes := bytes) (wt := wt) (live := live) (st := st) (ln := ln) (ov := ov) (area := area) (spare := spare) (el := el) (lg := lg) (hd := hd) (tl := tl) (nx := nx) (sk := sk) (ls := ls) (whole := whole) (ed := ed) a4 a5 (by omega) (by omega) (by omega) hS
  exact ⟨r, _, _, fun sz => c_X7_superstringLength l D cI cZ cJ h7, fun sz => c_X8_superstringLength l D cI cZ cJ h8, rfl, rfl, adK, adM, _, _, _, _, _, _, _, _, _, _, _, _, _, _, _, _, _, _, _, _, _, _, _, _, _, _, _, _, _, _, _, _, _, _, _, _, _, _, _, _, _, _, _, _, _, _, _, _, _, _, _, _, _, _, _, _, _, _, _, _, _, _, _, rfl, rfl, rfl, rfl, hI.mono, c1⟩
