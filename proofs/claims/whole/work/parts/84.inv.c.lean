theorem met_setFolding (l : Launch) (D : va_G) {cI cZ cJ : ClassId} {qK qM t : Nat} {wa wb : va_W} (ht : t ≤ 600) (hw : LW cI cZ cJ qK qM t wa wb) {q1 : Int} (hq1 : q1 = 0 ∨ q1 = 1) : ∃ (r : Int) (wa1 wb1 : va_W), (∀ sz : Nat, Met l yX7_setFolding wsX7_setFolding rm_X7_setFolding (PW D vwCl [(cI, .int), (cZ, .boolean), (cJ, .long)] [.ref qK, .int (iI q1)] wa sz) (QW D vwCl (some (.int (iI r))) wa1 (va_A wa sz)) 0 0 (va_A wa sz)) ∧ (∀ sz : Nat, Met l yX8_setFolding wsX8_setFolding rm_X8_setFolding (PW D vwCl [(cI, .int), (cZ, .boolean), (cJ, .long)] [.ref qM, .int (iI q1)] wb sz) (QW D vwCl (some (.int (iI r))) wb1 (va_A wb sz)) 0 0 (va_A wb sz)) ∧ wa1.map Prod.fst = wa.map Prod.fst ∧ wb1.map Prod.fst = wb.map Prod.fst ∧ LW cI cZ cJ qK qM (t + 1) wa1 wb1 := by
  obtain ⟨adK, adM, work, reb, rep, on, bl, gv, al, mc, rc, slots, built, ar, spl, sl, sz, th, gfr, gsz, els, ws, laid, tm, sw, buf, bytes, len, wt, live, mem, rmem, st, ln, ov, area, spare, str, words, rE, rK, pos, num, dep, bf, size, list, moved, pl, starts, kat, el, lg, hd, tl, nx, sk, ls, whole, ed, cA, wA, nA, tA, tak, rfl, rfl, rfl, rfl, hI, hS⟩ := hw
  obtain ⟨a1, a2, a3, a4, a5, a6, a7, a8, a9, b1, b2, b3, b4, b5⟩ := id hI
  have hg0 := a4.1
  have hg1 := a4.2.1
  have hcn := a7.rg
  have hcl : cntL live gv.toNat ≤ 40 := by have := a7.2.1; omega
  subst a6
  obtain ⟨r, on2, h7, h8, c1⟩ := op_setFolding (gv := gv) (th := th) (on := on) (sl := sl) (v := q1) (live := live) (by omega) (by omega) (fun k x y => (a4.2.2 k x y).2.2.2.2.1) (by omega) (by omega) (by omega) (by omega)
  have hI3 : IV t on2 bl gv sl rep (cntL live gv.toNat) mc rc buf len bytes wt live str mem rmem words size list := by
    rcases c1 with c | ⟨c, d, -⟩
    · rw [c]; exact hI
    · exact hI.fold (by omega) d
  have hS3 : SI on2 gv len bytes live built laid ar area ws whole := by
    rcases c1 with c | ⟨c, d, -⟩
    · rw [c]; exact hS
    · exact hS.fold d
  exact ⟨r, _, _, fun sz => c_X7_setFolding l D cI cZ cJ hq1 h7, fun sz => c_X8_setFolding l D cI cZ cJ hq1 h8, rfl, rfl, adK, adM, _, _, _, _, _, _, _, _, _, _, _, _, _, _, _, _, _, _, _, _, _, _, _, _, _, _, _, _, _, _, _, _, _, _, _, _, _, _, _, _, _, _, _, _, _, _, _, _, _, _, _, _, _, _, _, _, _, _, _, _, _, _, _, rfl, rfl, rfl, rfl, hI3.mono, hS3⟩
theorem met_mainSize (l : Launch) (D : va_G) {cI cZ cJ : ClassId} {qK qM t : Nat} {wa wb : va_W} (ht : t ≤ 600) (hw : LW cI cZ cJ qK qM t wa wb) {q1 : Int} (hq1 : rgA q1) : ∃ (r : Int) (wb1 : va_W), Met l yX7_mainSize wsX7_mainSize rm_X7_mainSize (PR D vwCl [(cI, .int), (cZ, .boolean), (cJ, .long)] [.ref qK, .int (iI q1)] wa) (QR (some (.int (iI r)))) 0 0 (fun _ => False) ∧ (∀ sz : Nat, Met l yX8_mainSize wsX8_mainSize rm_X8_mainSize (PW D vwCl [(cI, .int), (cZ, .boolean), (cJ, .long)] [.ref qM, .int (iI q1)] wb sz) (QW D vwCl (some (.int (iI r))) wb1 (va_A wb sz)) 0 0 (va_A wb sz)) ∧ wb1.map Prod.fst = wb.map Prod.fst ∧ LW cI cZ cJ qK qM (t + 1) wa wb1 := by
  obtain ⟨adK, adM, work, reb, rep, on, bl, gv, al, mc, rc, slots, built, ar, spl, sl, sz, th, gfr, gsz, els, ws, laid, tm, sw, buf, bytes, len, wt, live, mem, rmem, st, ln, ov, area, spare, str, words, rE, rK, pos, num, dep, bf, size, list, moved, pl, starts, kat, el, lg, hd, tl, nx, sk, ls, whole, ed, cA, wA, nA, tA, tak, rfl, rfl, rfl, rfl, hI, hS⟩ := hw
  obtain ⟨a1, a2, a3, a4, a5, a6, a7, a8, a9, b1, b2, b3, b4, b5⟩ := id hI
  have hg0 := a4.1
  have hg1 := a4.2.1
  have hcn := a7.rg
  have hcl : cntL live gv.toNat ≤ 40 := by have := a7.2.1; omega
  have hq11 := hq1.1
  have hq12 := hq1.2
  obtain ⟨r, h7, h8⟩ := op_mainSize (c := mc) (l := q1) (th := th) (mem := mem) (size := size) (list := list) a9 (by omega) (by omega) (by omega) (by omega)
  exact ⟨r, _, c_X7_mainSize l D cI cZ cJ h7, fun sz => c_X8_mainSize l D cI cZ cJ h8, rfl, adK, adM, _, _, _, _, _, _, _, _, _, _, _, _, _, _, _, _, _, _, _, _, _, _, _, _, _, _, _, _, _, _, _, _, _, _, _, _, _, _, _, _, _, _, _, _, _, _, _, _, _, _, _, _, _, _, _, _, _, _, _, _, _, _, _, rfl, rfl, rfl, rfl, hI.mono, hS⟩
theorem met_removalSize (l : Launch) (D : va_G) {cI cZ cJ : ClassId} {qK qM t : Nat} {wa wb : va_W} (ht : t ≤ 600) (hw : LW cI cZ cJ qK qM t wa wb) {q1 : Int} (hq1 : rgA q1) : ∃ (r : Int) (wb1 : va_W), Met l yX7_removalSize wsX7_removalSize rm_X7_removalSize (PR D vwCl [(cI, .int), (cZ, .boolean), (cJ, .long)] [.ref qK, .int (iI q1)] wa) (QR (some (.int (iI r)))) 0 0 (fun _ => False) ∧ (∀ sz : Nat, Met l yX8_removalSize wsX8_removalSize rm_X8_removalSize (PW D vwCl [(cI, .int), (cZ, .boolean), (cJ, .long)] [.ref qM, .int (iI q1)] wb sz) (QW D vwCl (some (.int (iI r))) wb1 (va_A wb sz)) 0 0 (va_A wb sz)) ∧ wb1.map Prod.fst = wb.map Prod.fst ∧ LW cI cZ cJ qK qM (t + 1) wa wb1 := by
  obtain ⟨adK, adM, work, reb, rep, on, bl, gv, al, mc, rc, slots, built, ar, spl, sl, sz, th, gfr, gsz, els, ws, laid, tm, sw, buf, bytes, len, wt, live, mem, rmem, st, ln, ov, area, spare, str, words, rE, rK, pos, num, dep, bf, size, list, moved, pl, starts, kat, el, lg, hd, tl, nx, sk, ls, whole, ed, cA, wA, nA, tA, tak, rfl, rfl, rfl, rfl, hI, hS⟩ := hw
  obtain ⟨a1, a2, a3, a4, a5, a6, a7, a8, a9, b1, b2, b3, b4, b5⟩ := id hI
  have hg0 := a4.1
  have hg1 := a4.2.1
  have hcn := a7.rg
  have hcl : cntL live gv.toNat ≤ 40 := by have := a7.2.1; omega
  have hq11 := hq1.1
  have hq12 := hq1.2
  obtain ⟨r, h7, h8⟩ := op_removalSize (c := rc) (l := q1) (th := th) (mem := rmem) (size := size) (list := list) b1 (by omega) (by omega) (by omega) (by omega)
  exact ⟨r, _, c_X7_removalSize l D cI cZ cJ h7, fun sz => c_X8_removalSize l D cI cZ cJ h8, rfl, adK, adM, _, _, _, _, _, _, _, _, _, _, _, _, _, _, _, _, _, _, _, _, _, _, _, _, _, _, _, _, _, _, _, _, _, _, _, _, _, _, _, _, _, _, _, _, _, _, _, _, _, _, _, _, _, _, _, _, _, _, _, _, _, _, _, rfl, rfl, rfl, rfl, hI.mono, hS⟩
theorem met_stateCount (l : Launch) (D : va_G) {cI cZ cJ : ClassId} {qK qM t : Nat} {wa wb : va_W} (ht : t ≤ 600) (hw : LW cI cZ cJ qK qM t wa wb) {q1 : Int} (hq1 : rgA q1) : ∃ (r : Int) (wb1 : va_W), Met l yX7_stateCount wsX7_stateCount rm_X7_stateCount (PR D vwCl [(cI, .int), (cZ, .boolean), (cJ, .long)] [.ref qK, .int (iI q1)] wa) (QR (some (.int (iI r)))) 0 0 (fun _ => False) ∧ (∀ sz : Nat, Met l yX8_stateCount wsX8_stateCount rm_X8_stateCount (PW D vwCl [(cI, .int), (cZ, .boolean), (cJ, .long)] [.ref qM, .int (iI q1)] wb sz) (QW D vwCl (some (.int (iI r))) wb1 (va_A wb sz)) 0 0 (va_A wb sz)) ∧ wb1.map Prod.fst = wb.map Prod.fst ∧ LW cI cZ cJ qK qM (t + 1) wa wb1 := by
  obtain ⟨adK, adM, work, reb, rep, on, bl, gv, al, mc, rc, slots, built, ar, spl, sl, sz, th, gfr, gsz, els, ws, laid, tm, sw, buf, bytes, len, wt, live, mem, rmem, st, ln, ov, area, spare, str, words, rE, rK, pos, num, dep, bf, size, list, moved, pl, starts, kat, el, lg, hd, tl, nx, sk, ls, whole, ed, cA, wA, nA, tA, tak, rfl, rfl, rfl, rfl, hI, hS⟩ := hw
  obtain ⟨a1, a2, a3, a4, a5, a6, a7, a8, a9, b1, b2, b3, b4, b5⟩ := id hI
  have hg0 := a4.1
  have hg1 := a4.2.1
  have hcn := a7.rg
  have hcl : cntL live gv.toNat ≤ 40 := by have := a7.2.1; omega
  have hq11 := hq1.1
  have hq12 := hq1.2
  obtain ⟨r, h7, h8⟩ := op_stateCount (gv := gv) (on := on) (c := mc) (l := q1) (th := th) (len := len) (bytes := bytes) (wt := wt) (live := live) (mem := mem) (size := size) (list := list) a4 (by omega) (by omega) a9 a8 (by omega) (by omega) (by omega) (by omega)
  exact ⟨r, _, c_X7_stateCount l D cI cZ cJ h7, fun sz => c_X8_stateCount l D cI cZ cJ h8, rfl, adK, adM, _, _, _, _, _, _, _, _, _, _, _, _, _, _, _, _, _, _, _, _, _, _, _, _, _, _, _, _, _, _, _, _, _, _, _, _, _, _, _, _, _, _, _, _, _, _, _, _, _, _, _, _, _, _, _, _, _, _, _, _, _, _, _, rfl, rfl, rfl, rfl, hI.mono, hS⟩
theorem met_currentDepth (l : Launch) (D : va_G) {cI cZ cJ : ClassId} {qK qM t : Nat} {wa wb : va_W} (ht : t ≤ 600) (hw : LW cI cZ cJ qK qM t wa wb) {q1 : Int} (hq1 : rgA q1) : ∃ (r : Int) (wb1 : va_W), Met l yX7_currentDepth wsX7_currentDepth rm_X7_currentDepth (PR D vwCl [(cI, .int), (cZ, .boolean), (cJ, .long)] [.ref qK, .int (iI q1)] wa) (QR (some (.int (iI r)))) 0 0 (fun _ => False) ∧ (∀ sz : Nat, Met l yX8_currentDepth wsX8_currentDepth rm_X8_currentDepth (PW D vwCl [(cI, .int), (cZ, .boolean), (cJ, .long)] [.ref qM, .int (iI q1)] wb sz) (QW D vwCl (some (.int (iI r))) wb1 (va_A wb sz)) 0 0 (va_A wb sz)) ∧ wb1.map Prod.fst = wb.map Prod.fst ∧ LW cI cZ cJ qK qM (t + 1) wa wb1 := by
  obtain ⟨adK, adM, work, reb, rep, on, bl, gv, al, mc, rc, slots, built, ar, spl, sl, sz, th, gfr, gsz, els, ws, laid, tm, sw, buf, bytes, len, wt, live, mem, rmem, st, ln, ov, area, spare, str, words, rE, rK, pos, num, dep, bf, size, list, moved, pl, starts, kat, el, lg, hd, tl, nx, sk, ls, whole, ed, cA, wA, nA, tA, tak, rfl, rfl, rfl, rfl, hI, hS⟩ := hw
  obtain ⟨a1, a2, a3, a4, a5, a6, a7, a8, a9, b1, b2, b3, b4, b5⟩ := id hI
  have hg0 := a4.1
  have hg1 := a4.2.1
  have hcn := a7.rg
  have hcl : cntL live gv.toNat ≤ 40 := by have := a7.2.1; omega
  have hq11 := hq1.1
  have hq12 := hq1.2
  obtain ⟨r, h7, h8⟩ := op_currentDepth (gv := gv) (on := on) (c := mc) (l := q1) (sl := sl) (th := th) (len := len) (bytes := bytes) (wt := wt) (live := live) (mem := mem) (size := size) (list := list) (str := str) a4 (by omega) (by omega) a9 a8 (by omega) (by omega) (by omega) (by omega) (rb_of b3) (by omega) (by omega)
  exact ⟨r, _, c_X7_currentDepth l D cI cZ cJ h7, fun sz => c_X8_currentDepth l D cI cZ cJ h8, rfl, adK, adM, _, _, _, _, _, _, _, _, _, _, _, _, _, _, _, _, _, _, _, _, _, _, _, _, _, _, _, _, _, _, _, _, _, _, _, _, _, _, _, _, _, _, _, _, _, _, _, _, _, _, _, _, _, _, _, _, _, _, _, _, _, _, _, rfl, rfl, rfl, rfl, hI.mono, hS⟩
theorem met_levelOf (l : Launch) (D : va_G) {cI cZ cJ : ClassId} {qK qM t : Nat} {wa wb : va_W} (ht : t ≤ 600) (hw : LW cI cZ cJ qK qM t wa wb) {q1 : Int} (hq1 : rgA q1) : ∃ (r : Int) (wb1 : va_W), Met l yX7_levelOf wsX7_levelOf rm_X7_levelOf (PR D vwCl [(cI, .int), (cZ, .boolean), (cJ, .long)] [.ref qK, .int (iI q1)] wa) (QR (some (.int (iI r)))) 0 0 (fun _ => False) ∧ (∀ sz : Nat, Met l yX8_levelOf wsX8_levelOf rm_X8_levelOf (PW D vwCl [(cI, .int), (cZ, .boolean), (cJ, .long)] [.ref qM, .int (iI q1)] wb sz) (QW D vwCl (some (.int (iI r))) wb1 (va_A wb sz)) 0 0 (va_A wb sz)) ∧ wb1.map Prod.fst = wb.map Prod.fst ∧ LW cI cZ cJ qK qM (t + 1) wa wb1 := by
  obtain ⟨adK, adM, work, reb, rep, on, bl, gv, al, mc, rc, slots, built, ar, spl, sl, sz, th, gfr, gsz, els, ws, laid, tm, sw, buf, bytes, len, wt, live, mem, rmem, st, ln, ov, area, spare, str, words, rE, rK, pos, num, dep, bf, size, list, moved, pl, starts, kat, el, lg, hd, tl, nx, sk, ls, whole, ed, cA, wA, nA, tA, tak, rfl, rfl, rfl, rfl, hI, hS⟩ := hw
  obtain ⟨a1, a2, a3, a4, a5, a6, a7, a8, a9, b1, b2, b3, b4, b5⟩ := id hI
  have hg0 := a4.1
  have hg1 := a4.2.1
  have hcn := a7.rg
  have hcl : cntL live gv.toNat ≤ 40 := by have := a7.2.1; omega
  have hq11 := hq1.1
  have hq12 := hq1.2
  obtain ⟨r, h7, h8⟩ := op_levelOf (gv := gv) (c := mc) (k := q1) (th := th) (mem := mem) (size := size) (list := list) a9 (by omega) (by omega) a8 (by omega) (by omega) (by omega) (by omega)
  exact ⟨r, _, c_X7_levelOf l D cI cZ cJ h7, fun sz => c_X8_levelOf l D cI cZ cJ h8, rfl, adK, adM, _, _, _, _, _, _, _, _, _, _, _, _, _, _, _, _, _, _, _, _, _, _, _, _, _, _, _, _, _, _, _, _, _, _, _, _, _, _, _, _, _, _, _, _, _, _, _, _, _, _, _, _, _, _, _, _, _, _, _, _, _, _, _, rfl, rfl, rfl, rfl, hI.mono, hS⟩
theorem met_failureLength (l : Launch) (D : va_G) {cI cZ cJ : ClassId} {qK qM t : Nat} {wa wb : va_W} (ht : t ≤ 600) (hw : LW cI cZ cJ qK qM t wa wb) {q1 q2 : Int} (hq1 : rgA q1) (hq2 : rgA q2) : ∃ (r : Int) (wb1 : va_W), Met l yX7_failureLength wsX7_failureLength rm_X7_failureLength (PR D vwCl [(cI, .int), (cZ, .boolean), (cJ, .long)] [.ref qK, .int (iI q1), .int (iI q2)] wa) (QR (some (.int (iI r)))) 0 0 (fun _ => False) ∧ (∀ sz : Nat, Met l yX8_failureLength wsX8_failureLength rm_X8_failureLength (PW D vwCl [(cI, .int), (cZ, .boolean), (cJ, .long)] [.ref qM, .int (iI q1), .int (iI q2)] wb sz) (QW D vwCl (some (.int (iI r))) wb1 (va_A wb sz)) 0 0 (va_A wb sz)) ∧ wb1.map Prod.fst = wb.map Prod.fst ∧ LW cI cZ cJ qK qM (t + 1) wa wb1 := by
  obtain ⟨adK, adM, work, reb, rep, on, bl, gv, al, mc, rc, slots, built, ar, spl, sl, sz, th, gfr, gsz, els, ws, laid, tm, sw, buf, bytes, len, wt, live, mem, rmem, st, ln, ov, area, spare, str, words, rE, rK, pos, num, dep, bf, size, list, moved, pl, starts, kat, el, lg, hd, tl, nx, sk, ls, whole, ed, cA, wA, nA, tA, tak, rfl, rfl, rfl, rfl, hI, hS⟩ := hw
  obtain ⟨a1, a2, a3, a4, a5, a6, a7, a8, a9, b1, b2, b3, b4, b5⟩ := id hI
  have hg0 := a4.1
  have hg1 := a4.2.1
  have hcn := a7.rg
  have hcl : cntL live gv.toNat ≤ 40 := by have := a7.2.1; omega
  have hq11 := hq1.1
  have hq12 := hq1.2
  have hq21 := hq2.1
  have hq22 := hq2.2
  obtain ⟨r, h7, h8⟩ := op_failureLength (gv := gv) (on := on) (c := mc) (k := q1) (n := q2) (th := th) (len := len) (bytes := bytes) (wt := wt) (live := live) (mem := mem) (size := size) (list := list) a4 (by omega) (by omega) a9 a8 (by omega) (by omega) (by omega) (by omega) (by omega) (by omega)
  exact ⟨r, _, c_X7_failureLength l D cI cZ cJ h7, fun sz => c_X8_failureLength l D cI cZ cJ h8, rfl, adK, adM, _, _, _, _, _, _, _, _, _, _, _, _, _, _, _, _, _, _, _, _, _, _, _, _, _, _, _, _, _, _, _, _, _, _, _, _, _, _, _, _, _, _, _, _, _, _, _, _, _, _, _, _, _, _, _, _, _, _, _, _, _, _, _, rfl, rfl, rfl, rfl, hI.mono, hS⟩
theorem met_buildWork (l : Launch) (D : va_G) {cI cZ cJ : ClassId} {qK qM t : Nat} {wa wb : va_W} (ht : t ≤ 600) (hw : LW cI cZ cJ qK qM t wa wb) : ∃ (r : Int) (wb1 : va_W), Met l yX7_buildWork wsX7_buildWork rm_X7_buildWork (PR D vwCl [(cI, .int), (cZ, .boolean), (cJ, .long)] [.ref qK] wa) (QR (some (.int (iI r)))) 0 0 (fun _ => False) ∧ (∀ sz : Nat, Met l yX8_buildWork wsX8_buildWork rm_X8_buildWork (PW D vwCl [(cI, .int), (cZ, .boolean), (cJ, .long)] [.ref qM] wb sz) (QW D vwCl (some (.int (iI r))) wb1 (va_A wb sz)) 0 0 (va_A wb sz)) ∧ wb1.map Prod.fst = wb.map Prod.fst ∧ LW cI cZ cJ qK qM (t + 1) wa wb1 := by
  obtain ⟨adK, adM, work, reb, rep, on, bl, gv, al, mc, rc, slots, built, ar, spl, sl, sz, th, gfr, gsz, els, ws, laid, tm, sw, buf, bytes, len, wt, live, mem, rmem, st, ln, ov, area, spare, str, words, rE, rK, pos, num, dep, bf, size, list, moved, pl, starts, kat, el, lg, hd, tl, nx, sk, ls, whole, ed, cA, wA, nA, tA, tak, rfl, rfl, rfl, rfl, hI, hS⟩ := hw
  obtain ⟨a1, a2, a3, a4, a5, a6, a7, a8, a9, b1, b2, b3, b4, b5⟩ := id hI
  have hg0 := a4.1
  have hg1 := a4.2.1
  have hcn := a7.rg
  have hcl : cntL live gv.toNat ≤ 40 := by have := a7.2.1; omega
  have h7 : s_X7_buildWork work = some work := rfl
  have h8 : s_X8_buildWork th work = some (work, 0) := rfl
  exact ⟨work, _, c_X7_buildWork l D cI cZ cJ h7, fun sz => c_X8_buildWork l D cI cZ cJ h8, rfl, adK, adM, _, _, _, _, _, _, _, _, _, _, _, _, _, _, _, _, _, _, _, _, _, _, _, _, _, _, _, _, _, _, _, _, _, _, _, _, _, _, _, _, _, _, _, _, _, _, _, _, _, _, _, _, _, _, _, _, _, _, _, _, _, _, _, rfl, rfl, rfl, rfl, hI.mono, hS⟩
theorem met_plannedWork (l : Launch) (D : va_G) {cI cZ cJ : ClassId} {qK qM t : Nat} {wa wb : va_W} (ht : t ≤ 600) (hw : LW cI cZ cJ qK qM t wa wb) {q1 : Int} (hq1 : rgA q1) : ∃ (r : Int) (wb1 : va_W), Met l yX7_plannedWork wsX7_plannedWork rm_X7_plannedWork (PR D vwCl [(cI, .int), (cZ, .boolean), (cJ, .long)] [.ref qK, .int (iI q1)] wa) (QR (some (.int (iI r)))) 0 0 (fun _ => False) ∧ (∀ sz : Nat, Met l yX8_plannedWork wsX8_plannedWork rm_X8_plannedWork (PW D vwCl [(cI, .int), (cZ, .boolean), (cJ, .long)] [.ref qM, .int (iI q1)] wb sz) (QW D vwCl (some (.int (iI r))) wb1 (va_A wb sz)) 0 0 (va_A wb sz)) ∧ wb1.map Prod.fst = wb.map Prod.fst ∧ LW cI cZ cJ qK qM (t + 1) wa wb1 := by
  obtain ⟨adK, adM, work, reb, rep, on, bl, gv, al, mc, rc, slots, built, ar, spl, sl, sz, th, gfr, gsz, els, ws, laid, tm, sw, buf, bytes, len, wt, live, mem, rmem, st, ln, ov, area, spare, str, words, rE, rK, pos, num, dep, bf, size, list, moved, pl, starts, kat, el, lg, hd, tl, nx, sk, ls, whole, ed, cA, wA, nA, tA, tak, rfl, rfl, rfl, rfl, hI, hS⟩ := hw
  obtain ⟨a1, a2, a3, a4, a5, a6, a7, a8, a9, b1, b2, b3, b4, b5⟩ := id hI
  have hg0 := a4.1
  have hg1 := a4.2.1
  have hcn := a7.rg
  have hcl : cntL live gv.toNat ≤ 40 := by have := a7.2.1; omega
  have hq11 := hq1.1
  have hq12 := hq1.2
  obtain ⟨r, pl2, h7, h8⟩ := op_plannedWork (c := mc) (n := q1) (th := th) (mem := mem) (size := size) (list := list) (pl := pl) a9 (by omega) (by omega) (by omega) (by omega)
  exact ⟨r, _, c_X7_plannedWork l D cI cZ cJ h7, fun sz => c_X8_plannedWork l D cI cZ cJ h8, rfl, adK, adM, _, _, _, _, _, _, _, _, _, _, _, _, _, _, _, _, _, _, _, _, _, _, _, _, _, _, _, _, _, _, _, _, _, _, _, _, _, _, _, _, _, _, _, _, _, _, _, _, _, _, _, _, _, _, _, _, _, _, _, _, _, _, _, rfl, rfl, rfl, rfl, hI.mono, hS⟩
theorem met_rebuildCount (l : Launch) (D : va_G) {cI cZ cJ : ClassId} {qK qM t : Nat} {wa wb : va_W} (ht : t ≤ 600) (hw : LW cI cZ cJ qK qM t wa wb) : ∃ (r : Int) (wb1 : va_W), Met l yX7_rebuildCount wsX7_rebuildCount rm_X7_rebuildCount (PR D vwCl [(cI, .int), (cZ, .boolean), (cJ, .long)] [.ref qK] wa) (QR (some (.int (iI r)))) 0 0 (fun _ => False) ∧ (∀ sz : Nat, Met l yX8_rebuildCount wsX8_rebuildCount rm_X8_rebuildCount (PW D vwCl [(cI, .int), (cZ, .boolean), (cJ, .long)] [.ref qM] wb sz) (QW D vwCl (some (.int (iI r))) wb1 (va_A wb sz)) 0 0 (va_A wb sz)) ∧ wb1.map Prod.fst = wb.map Prod.fst ∧ LW cI cZ cJ qK qM (t + 1) wa wb1 := by
  obtain ⟨adK, adM, work, reb, rep, on, bl, gv, al, mc, rc, slots, built, ar, spl, sl, sz, th, gfr, gsz, els, ws, laid, tm, sw, buf, bytes, len, wt, live, mem, rmem, st, ln, ov, area, spare, str, words, rE, rK, pos, num, dep, bf, size, list, moved, pl, starts, kat, el, lg, hd, tl, nx, sk, ls, whole, ed, cA, wA, nA, tA, tak, rfl, rfl, rfl, rfl, hI, hS⟩ := hw
  obtain ⟨a1, a2, a3, a4, a5, a6, a7, a8, a9, b1, b2, b3, b4, b5⟩ := id hI
  have hg0 := a4.1
  have hg1 := a4.2.1
  have hcn := a7.rg
  have hcl : cntL live gv.toNat ≤ 40 := by have := a7.2.1; omega
  have h7 : s_X7_rebuildCount reb = some reb := rfl
  have h8 : s_X8_rebuildCount th reb = some (reb, 0) := rfl
  exact ⟨reb, _, c_X7_rebuildCount l D cI cZ cJ h7, fun sz => c_X8_rebuildCount l D cI cZ cJ h8, rfl, adK, adM, _, _, _, _, _, _, _, _, _, _, _, _, _, _, _, _, _, _, _, _, _, _, _, _, _, _, _, _, _, _, _, _, _, _, _, _, _, _, _, _, _, _, _, _, _, _, _, _, _, _, _, _, _, _, _, _, _, _, _, _, _, _, _, rfl, rfl, rfl, rfl, hI.mono, hS⟩
