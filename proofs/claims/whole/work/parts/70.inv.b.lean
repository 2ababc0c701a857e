theorem met_appendBytes (l : Launch) (D : va_G) {cI cZ cJ : ClassId} {qK qM t : Nat} {wa wb : va_W} (ht : t ≤ 600) (hw : LW cI cZ cJ qK qM t wa wb) {q1 q2 q3 q4 q5 : Int} (hq1 : rgA q1) (hq2 : rgA q2) (hq3 : rgA q3) (hq4 : rgA q4) (hq5 : rgA q5) : ∃ (r : Int) (wa1 wb1 : va_W), (∀ sz : Nat, Met l yX7_appendBytes wsX7_appendBytes rm_X7_appendBytes (PW D vwCl [(cI, .int), (cZ, .boolean), (cJ, .long)] [.ref qK, .int (iI q1), .int (iI q2), .int (iI q3), .int (iI q4), .int (iI q5)] wa sz) (QW D vwCl (some (.int (iI r))) wa1 (va_A wa sz)) 0 0 (va_A wa sz)) ∧ (∀ sz : Nat, Met l yX8_appendBytes wsX8_appendBytes rm_X8_appendBytes (PW D vwCl [(cI, .int), (cZ, .boolean), (cJ, .long)] [.ref qM, .int (iI q1), .int (iI q2), .int (iI q3), .int (iI q4), .int (iI q5)] wb sz) (QW D vwCl (some (.int (iI r))) wb1 (va_A wb sz)) 0 0 (va_A wb sz)) ∧ wa1.map Prod.fst = wa.map Prod.fst ∧ wb1.map Prod.fst = wb.map Prod.fst ∧ LW cI cZ cJ qK qM (t + 1) wa1 wb1 := by
  obtain ⟨adK, adM, work, reb, rep, on, bl, gv, al, mc, rc, slots, built, ar, spl, sl, sz, th, gfr, gsz, els, ws, laid, tm, sw, buf, bytes, len, wt, live, mem, rmem, st, ln, ov, area, spare, str, words, rE, rK, pos, num, dep, bf, size, list, moved, pl, starts, kat, el, lg, hd, tl, nx, sk, ls, whole, ed, cA, wA, nA, tA, tak, rfl, rfl, rfl, rfl, hI, hS⟩ := hw
  obtain ⟨a1, a2, a3, a4, a5, a6, a7, a8, a9, b1, b2, b3, b4, b5⟩ := id hI
  have hg0 := a4.1
  have hg1 := a4.2.1
  have hcn := a7.rg
  have hcl : cntL live gv.toNat ≤ 40 := by have := a7.2.1; omega
  have hq11 := hq1.1
  have hq12 := hq1.2
  have hq21 := hq2.1
  have hq22 := hq2.2
  have hq31 := hq3.1
  have hq32 := hq3.2
  have hq41 := hq4.1
  have hq42 := hq4.2
  have hq51 := hq5.1
  have hq52 := hq5.2
  obtain ⟨r, bl2, buf2, h7, h8, c1, c2, c3⟩ := op_appendBytes2 (bl := bl) (th := th) (a := q1) (b := q2) (c := q3) (d := q4) (e := q5) (buf := buf) (by omega) (by omega) a3
  exact ⟨r, _, _, fun sz => c_X7_appendBytes l D cI cZ cJ h7, fun sz => c_X8_appendBytes l D cI cZ cJ h8, rfl, rfl, adK, adM, _, _, _, _, _, _, _, _, _, _, _, _, _, _, _, _, _, _, _, _, _, _, _, _, _, _, _, _, _, _, _, _, _, _, _, _, _, _, _, _, _, _, _, _, _, _, _, _, _, _, _, _, _, _, _, _, _, _, _, _, _, _, _, rfl, rfl, rfl, rfl, (IV.mono ⟨a1, ⟨c1, c2⟩, c3, a4, a5, a6, a7, a8, a9, b1, b2, b3, b4, b5⟩), hS⟩
theorem met_bufferLength (l : Launch) (D : va_G) {cI cZ cJ : ClassId} {qK qM t : Nat} {wa wb : va_W} (ht : t ≤ 600) (hw : LW cI cZ cJ qK qM t wa wb) : ∃ (r : Int) (wb1 : va_W), Met l yX7_bufferLength wsX7_bufferLength rm_X7_bufferLength (PR D vwCl [(cI, .int), (cZ, .boolean), (cJ, .long)] [.ref qK] wa) (QR (some (.int (iI r)))) 0 0 (fun _ => False) ∧ (∀ sz : Nat, Met l yX8_bufferLength wsX8_bufferLength rm_X8_bufferLength (PW D vwCl [(cI, .int), (cZ, .boolean), (cJ, .long)] [.ref qM] wb sz) (QW D vwCl (some (.int (iI r))) wb1 (va_A wb sz)) 0 0 (va_A wb sz)) ∧ wb1.map Prod.fst = wb.map Prod.fst ∧ LW cI cZ cJ qK qM (t + 1) wa wb1 := by
  obtain ⟨adK, adM, work, reb, rep, on, bl, gv, al, mc, rc, slots, built, ar, spl, sl, sz, th, gfr, gsz, els, ws, laid, tm, sw, buf, bytes, len, wt, live, mem, rmem, st, ln, ov, area, spare, str, words, rE, rK, pos, num, dep, bf, size, list, moved, pl, starts, kat, el, lg, hd, tl, nx, sk, ls, whole, ed, cA, wA, nA, tA, tak, rfl, rfl, rfl, rfl, hI, hS⟩ := hw
  obtain ⟨a1, a2, a3, a4, a5, a6, a7, a8, a9, b1, b2, b3, b4, b5⟩ := id hI
  have hg0 := a4.1
  have hg1 := a4.2.1
  have hcn := a7.rg
  have hcl : cntL live gv.toNat ≤ 40 := by have := a7.2.1; omega
  have h7 : s_X7_bufferLength bl = some bl := rfl
  have h8 : s_X8_bufferLength th bl = some (bl, 0) := rfl
  exact ⟨bl, _, c_X7_bufferLength l D cI cZ cJ h7, fun sz => c_X8_bufferLength l D cI cZ cJ h8, rfl, adK, adM, _, _, _, _, _, _, _, _, _, _, _, _, _, _, _, _, _, _, _, _, _, _, _, _, _, _, _, _, _, _, _, _, _, _, _, _, _, _, _, _, _, _, _, _, _, _, _, _, _, _, _, _, _, _, _, _, _, _, _, _, _, _, _, rfl, rfl, rfl, rfl, hI.mono, hS⟩
theorem met_addKeyword (l : Launch) (D : va_G) {cI cZ cJ : ClassId} {qK qM t : Nat} {wa wb : va_W} (ht : t ≤ 600) (hw : LW cI cZ cJ qK qM t wa wb) {q1 q2 : Int} (hq1 : rgA q1) (hq2 : rgA q2) : ∃ (r : Int) (wa1 wb1 : va_W), (∀ sz : Nat, Met l yX7_addKeyword wsX7_addKeyword rm_X7_addKeyword (PW D vwCl [(cI, .int), (cZ, .boolean), (cJ, .long)] [.ref qK, .int (iI q1), .int (iI q2)] wa sz) (QW D vwCl (some (.int (iI r))) wa1 (va_A wa sz)) 0 0 (va_A wa sz)) ∧ (∀ sz : Nat, Met l yX8_addKeyword wsX8_addKeyword rm_X8_addKeyword (PW D vwCl [(cI, .int), (cZ, .boolean), (cJ, .long)] [.ref qM, .int (iI q1), .int (iI q2)] wb sz) (QW D vwCl (some (.int (iI r))) wb1 (va_A wb sz)) 0 0 (va_A wb sz)) ∧ wa1.map Prod.fst = wa.map Prod.fst ∧ wb1.map Prod.fst = wb.map Prod.fst ∧ LW cI cZ cJ qK qM (t + 1) wa1 wb1 := by
  obtain ⟨adK, adM, work, reb, rep, on, bl, gv, al, mc, rc, slots, built, ar, spl, sl, sz, th, gfr, gsz, els, ws, laid, tm, sw, buf, bytes, len, wt, live, mem, rmem, st, ln, ov, area, spare, str, words, rE, rK, pos, num, dep, bf, size, list, moved, pl, starts, kat, el, lg, hd, tl, nx, sk, ls, whole, ed, cA, wA, nA, tA, tak, rfl, rfl, rfl, rfl, hI, hS⟩ := hw
  obtain ⟨a1, a2, a3, a4, a5, a6, a7, a8, a9, b1, b2, b3, b4, b5⟩ := id hI
  have hg0 := a4.1
  have hg1 := a4.2.1
  have hcn := a7.rg
  have hcl : cntL live gv.toNat ≤ 40 := by have := a7.2.1; omega
  have hq11 := hq1.1
  have hq12 := hq1.2
  have hq21 := hq2.1
  have hq22 := hq2.2
  obtain ⟨r, work2, bl2, gv2, al2, mc2, built2, laid2, bytes2, len2, wt2, live2, mem2, words2, size2, list2, moved2, h7, h8, c1, c2⟩ := op_addKeyword (on := on) (bl := bl) (gv := gv) (sl := sl) (rep := rep) (al := al) (mc := mc) (rc := rc) (work := work) (built := built) (laid := laid) (n := q1) (w := q2) (th := th) (buf := buf) (len := len) (bytes := bytes) (wt := wt) (live := live) (str := str) (mem := mem) (rmem := rmem) (words := words) (size := size) (list := list) (moved := moved) hI (by omega) (by omega) (by omega) (by omega)
  exact ⟨r, _, _, fun sz => c_X7_addKeyword l D cI cZ cJ h7, fun sz => c_X8_addKeyword l D cI cZ cJ h8, rfl, rfl, adK, adM, _, _, _, _, _, _, _, _, _, _, _, _, _, _, _, _, _, _, _, _, _, _, _, _, _, _, _, _, _, _, _, _, _, _, _, _, _, _, _, _, _, _, _, _, _, _, _, _, _, _, _, _, _, _, _, _, _, _, _, _, _, _, _, rfl, rfl, rfl, rfl, c1.mono, (hS.keep c2)⟩
theorem met_removeKeyword (l : Launch) (D : va_G) {cI cZ cJ : ClassId} {qK qM t : Nat} {wa wb : va_W} (ht : t ≤ 600) (hw : LW cI cZ cJ qK qM t wa wb) {q1 : Int} (hq1 : rgA q1) : ∃ (r : Int) (wa1 wb1 : va_W), (∀ sz : Nat, Met l yX7_removeKeyword wsX7_removeKeyword rm_X7_removeKeyword (PW D vwCl [(cI, .int), (cZ, .boolean), (cJ, .long)] [.ref qK, .int (iI q1)] wa sz) (QW D vwCl (some (.int (iI r))) wa1 (va_A wa sz)) 0 0 (va_A wa sz)) ∧ (∀ sz : Nat, Met l yX8_removeKeyword wsX8_removeKeyword rm_X8_removeKeyword (PW D vwCl [(cI, .int), (cZ, .boolean), (cJ, .long)] [.ref qM, .int (iI q1)] wb sz) (QW D vwCl (some (.int (iI r))) wb1 (va_A wb sz)) 0 0 (va_A wb sz)) ∧ wa1.map Prod.fst = wa.map Prod.fst ∧ wb1.map Prod.fst = wb.map Prod.fst ∧ LW cI cZ cJ qK qM (t + 1) wa1 wb1 := by
  obtain ⟨adK, adM, work, reb, rep, on, bl, gv, al, mc, rc, slots, built, ar, spl, sl, sz, th, gfr, gsz, els, ws, laid, tm, sw, buf, bytes, len, wt, live, mem, rmem, st, ln, ov, area, spare, str, words, rE, rK, pos, num, dep, bf, size, list, moved, pl, starts, kat, el, lg, hd, tl, nx, sk, ls, whole, ed, cA, wA, nA, tA, tak, rfl, rfl, rfl, rfl, hI, hS⟩ := hw
  obtain ⟨a1, a2, a3, a4, a5, a6, a7, a8, a9, b1, b2, b3, b4, b5⟩ := id hI
  have hg0 := a4.1
  have hg1 := a4.2.1
  have hcn := a7.rg
  have hcl : cntL live gv.toNat ≤ 40 := by have := a7.2.1; omega
  have hq11 := hq1.1
  have hq12 := hq1.2
  obtain ⟨r, work2, reb2, al2, mc2, rc2, built2, laid2, live2, mem2, rmem2, words2, size2, list2, moved2, h7, h8, c1, c2⟩ := op_removeKeyword (on := on) (bl := bl) (gv := gv) (sl := sl) (rep := rep) (al := al) (mc := mc) (rc := rc) (work := work) (reb := reb) (built := built) (laid := laid) (k := q1) (th := th) (buf := buf) (len := len) (bytes := bytes) (wt := wt) (live := live) (str := str) (mem := mem) (rmem := rmem) (words := words) (size := size) (list := list) (moved := moved) hI (by omega) (by omega)
  exact ⟨r, _, _, fun sz => c_X7_removeKeyword l D cI cZ cJ h7, fun sz => c_X8_removeKeyword l D cI cZ cJ h8, rfl, rfl, adK, adM, _, _, _, _, _, _, _, _, _, _, _, _, _, _, _, _, _, _, _, _, _, _, _, _, _, _, _, _, _, _, _, _, _, _, _, _, _, _, _, _, _, _, _, _, _, _, _, _, _, _, _, _, _, _, _, _, _, _, _, _, _, _, _, rfl, rfl, rfl, rfl, c1.mono, (hS.keep (c2.imp (fun q => ⟨rfl, rfl, rfl, q.1, q.2.1, q.2.2⟩) id))⟩
theorem met_findKeyword (l : Launch) (D : va_G) {cI cZ cJ : ClassId} {qK qM t : Nat} {wa wb : va_W} (ht : t ≤ 600) (hw : LW cI cZ cJ qK qM t wa wb) {q1 : Int} (hq1 : rgA q1) : ∃ (r : Int) (wa1 wb1 : va_W), (∀ sz : Nat, Met l yX7_findKeyword wsX7_findKeyword rm_X7_findKeyword (PW D vwCl [(cI, .int), (cZ, .boolean), (cJ, .long)] [.ref qK, .int (iI q1)] wa sz) (QW D vwCl (some (.int (iI r))) wa1 (va_A wa sz)) 0 0 (va_A wa sz)) ∧ (∀ sz : Nat, Met l yX8_findKeyword wsX8_findKeyword rm_X8_findKeyword (PW D vwCl [(cI, .int), (cZ, .boolean), (cJ, .long)] [.ref qM, .int (iI q1)] wb sz) (QW D vwCl (some (.int (iI r))) wb1 (va_A wb sz)) 0 0 (va_A wb sz)) ∧ wa1.map Prod.fst = wa.map Prod.fst ∧ wb1.map Prod.fst = wb.map Prod.fst ∧ LW cI cZ cJ qK qM (t + 1) wa1 wb1 := by
  obtain ⟨adK, adM, work, reb, rep, on, bl, gv, al, mc, rc, slots, built, ar, spl, sl, sz, th, gfr, gsz, els, ws, laid, tm, sw, buf, bytes, len, wt, live, mem, rmem, st, ln, ov, area, spare, str, words, rE, rK, pos, num, dep, bf, size, list, moved, pl, starts, kat, el, lg, hd, tl, nx, sk, ls, whole, ed, cA, wA, nA, tA, tak, rfl, rfl, rfl, rfl, hI, hS⟩ := hw
  obtain ⟨a1, a2, a3, a4, a5, a6, a7, a8, a9, b1, b2, b3, b4, b5⟩ := id hI
  have hg0 := a4.1
  have hg1 := a4.2.1
  have hcn := a7.rg
  have hcl : cntL live gv.toNat ≤ 40 := by have := a7.2.1; omega
  have hq11 := hq1.1
  have hq12 := hq1.2
  obtain ⟨r, bl2, h7, h8, c1, c2⟩ := op_findKeyword (gv := gv) (on := on) (bl := bl) (n := q1) (th := th) (len := len) (bytes := bytes) (wt := wt) (live := live) (buf := buf) a4 (by omega) (by omega) (by omega) (by omega) (rb_of a3) (by omega) (by omega)
  exact ⟨r, _, _, fun sz => c_X7_findKeyword l D cI cZ cJ h7, fun sz => c_X8_findKeyword l D cI cZ cJ h8, rfl, rfl, adK, adM, _, _, _, _, _, _, _, _, _, _, _, _, _, _, _, _, _, _, _, _, _, _, _, _, _, _, _, _, _, _, _, _, _, _, _, _, _, _, _, _, _, _, _, _, _, _, _, _, _, _, _, _, _, _, _, _, _, _, _, _, _, _, _, rfl, rfl, rfl, rfl, (IV.mono ⟨a1, ⟨c1, c2⟩, a3, a4, a5, a6, a7, a8, a9, b1, b2, b3, b4, b5⟩), hS⟩
theorem met_keywordLength (l : Launch) (D : va_G) {cI cZ cJ : ClassId} {qK qM t : Nat} {wa wb : va_W} (ht : t ≤ 600) (hw : LW cI cZ cJ qK qM t wa wb) {q1 : Int} (hq1 : rgA q1) : ∃ (r : Int) (wb1 : va_W), Met l yX7_keywordLength wsX7_keywordLength rm_X7_keywordLength (PR D vwCl [(cI, .int), (cZ, .boolean), (cJ, .long)] [.ref qK, .int (iI q1)] wa) (QR (some (.int (iI r)))) 0 0 (fun _ => False) ∧ (∀ sz : Nat, Met l yX8_keywordLength wsX8_keywordLength rm_X8_keywordLength (PW D vwCl [(cI, .int), (cZ, .boolean), (cJ, .long)] [.ref qM, .int (iI q1)] wb sz) (QW D vwCl (some (.int (iI r))) wb1 (va_A wb sz)) 0 0 (va_A wb sz)) ∧ wb1.map Prod.fst = wb.map Prod.fst ∧ LW cI cZ cJ qK qM (t + 1) wa wb1 := by
  obtain ⟨adK, adM, work, reb, rep, on, bl, gv, al, mc, rc, slots, built, ar, spl, sl, sz, th, gfr, gsz, els, ws, laid, tm, sw, buf, bytes, len, wt, live, mem, rmem, st, ln, ov, area, spare, str, words, rE, rK, pos, num, dep, bf, size, list, moved, pl, starts, kat, el, lg, hd, tl, nx, sk, ls, whole, ed, cA, wA, nA, tA, tak, rfl, rfl, rfl, rfl, hI, hS⟩ := hw
  obtain ⟨a1, a2, a3, a4, a5, a6, a7, a8, a9, b1, b2, b3, b4, b5⟩ := id hI
  have hg0 := a4.1
  have hg1 := a4.2.1
  have hcn := a7.rg
  have hcl : cntL live gv.toNat ≤ 40 := by have := a7.2.1; omega
  have hq11 := hq1.1
  have hq12 := hq1.2
  obtain ⟨r, h7, h8⟩ := op_keywordLength (gv := gv) (k := q1) (th := th) (len := len) (by omega) (by omega) (by omega) (by omega)
  exact ⟨r, _, c_X7_keywordLength l D cI cZ cJ h7, fun sz => c_X8_keywordLength l D cI cZ cJ h8, rfl, adK, adM, _, _, _, _, _, _, _, _, _, _, _, _, _, _, _, _, _, _, _, _, _, _, _, _, _, _, _, _, _, _, _, _, _, _, _, _, _, _, _, _, _, _, _, _, _, _, _, _, _, _, _, _, _, _, _, _, _, _, _, _, _, _, _, rfl, rfl, rfl, rfl, hI.mono, hS⟩
theorem met_keywordByte (l : Launch) (D : va_G) {cI cZ cJ : ClassId} {qK qM t : Nat} {wa wb : va_W} (ht : t ≤ 600) (hw : LW cI cZ cJ qK qM t wa wb) {q1 q2 : Int} (hq1 : rgA q1) (hq2 : rgA q2) : ∃ (r : Int) (wb1 : va_W), Met l yX7_keywordByte wsX7_keywordByte rm_X7_keywordByte (PR D vwCl [(cI, .int), (cZ, .boolean), (cJ, .long)] [.ref qK, .int (iI q1), .int (iI q2)] wa) (QR (some (.int (iI r)))) 0 0 (fun _ => False) ∧ (∀ sz : Nat, Met l yX8_keywordByte wsX8_keywordByte rm_X8_keywordByte (PW D vwCl [(cI, .int), (cZ, .boolean), (cJ, .long)] [.ref qM, .int (iI q1), .int (iI q2)] wb sz) (QW D vwCl (some (.int (iI r))) wb1 (va_A wb sz)) 0 0 (va_A wb sz)) ∧ wb1.map Prod.fst = wb.map Prod.fst ∧ LW cI cZ cJ qK qM (t + 1) wa wb1 := by
  obtain ⟨adK, adM, work, reb, rep, on, bl, gv, al, mc, rc, slots, built, ar, spl, sl, sz, th, gfr, gsz, els, ws, laid, tm, sw, buf, bytes, len, wt, live, mem, rmem, st, ln, ov, area, spare, str, words, rE, rK, pos, num, dep, bf, size, list, moved, pl, starts, kat, el, lg, hd, tl, nx, sk, ls, whole, ed, cA, wA, nA, tA, tak, rfl, rfl, rfl, rfl, hI, hS⟩ := hw
  obtain ⟨a1, a2, a3, a4, a5, a6, a7, a8, a9, b1, b2, b3, b4, b5⟩ := id hI
  have hg0 := a4.1
  have hg1 := a4.2.1
  have hcn := a7.rg
  have hcl : cntL live gv.toNat ≤ 40 := by have := a7.2.1; omega
  have hq11 := hq1.1
  have hq12 := hq1.2
  have hq21 := hq2.1
  have hq22 := hq2.2
  obtain ⟨r, h7, h8⟩ := op_keywordByte (gv := gv) (k := q1) (i := q2) (th := th) (bytes := bytes) (len := len) (wt := wt) (live := live) a4 (by omega) (by omega) (by omega) (by omega)
  exact ⟨r, _, c_X7_keywordByte l D cI cZ cJ h7, fun sz => c_X8_keywordByte l D cI cZ cJ h8, rfl, adK, adM, _, _, _, _, _, _, _, _, _, _, _, _, _, _, _, _, _, _, _, _, _, _, _, _, _, _, _, _, _, _, _, _, _, _, _, _, _, _, _, _, _, _, _, _, _, _, _, _, _, _, _, _, _, _, _, _, _, _, _, _, _, _, _, rfl, rfl, rfl, rfl, hI.mono, hS⟩
theorem met_keywordWeight (l : Launch) (D : va_G) {cI cZ cJ : ClassId} {qK qM t : Nat} {wa wb : va_W} (ht : t ≤ 600) (hw : LW cI cZ cJ qK qM t wa wb) {q1 : Int} (hq1 : rgA q1) : ∃ (r : Int) (wb1 : va_W), Met l yX7_keywordWeight wsX7_keywordWeight rm_X7_keywordWeight (PR D vwCl [(cI, .int), (cZ, .boolean), (cJ, .long)] [.ref qK, .int (iI q1)] wa) (QR (some (.int (iI r)))) 0 0 (fun _ => False) ∧ (∀ sz : Nat, Met l yX8_keywordWeight wsX8_keywordWeight rm_X8_keywordWeight (PW D vwCl [(cI, .int), (cZ, .boolean), (cJ, .long)] [.ref qM, .int (iI q1)] wb sz) (QW D vwCl (some (.int (iI r))) wb1 (va_A wb sz)) 0 0 (va_A wb sz)) ∧ wb1.map Prod.fst = wb.map Prod.fst ∧ LW cI cZ cJ qK qM (t + 1) wa wb1 := by
  obtain ⟨adK, adM, work, reb, rep, on, bl, gv, al, mc, rc, slots, built, ar, spl, sl, sz, th, gfr, gsz, els, ws, laid, tm, sw, buf, bytes, len, wt, live, mem, rmem, st, ln, ov, area, spare, str, words, rE, rK, pos, num, dep, bf, size, list, moved, pl, starts, kat, el, lg, hd, tl, nx, sk, ls, whole, ed, cA, wA, nA, tA, tak, rfl, rfl, rfl, rfl, hI, hS⟩ := hw
  obtain ⟨a1, a2, a3, a4, a5, a6, a7, a8, a9, b1, b2, b3, b4, b5⟩ := id hI
  have hg0 := a4.1
  have hg1 := a4.2.1
  have hcn := a7.rg
  have hcl : cntL live gv.toNat ≤ 40 := by have := a7.2.1; omega
  have hq11 := hq1.1
  have hq12 := hq1.2
  obtain ⟨r, h7, h8⟩ := op_keywordWeight (gv := gv) (k := q1) (th := th) (wt := wt) (by omega) (by omega) (by omega) (by omega)
  exact ⟨r, _, c_X7_keywordWeight l D cI cZ cJ h7, fun sz => c_X8_keywordWeight l D cI cZ cJ h8, rfl, adK, adM, _, _, _, _, _, _, _, _, _, _, _, _, _, _, _, _, _, _, _, _, _, _, _, _, _, _, _, _, _, _, _, _, _, _, _, _, _, _, _, _, _, _, _, _, _, _, _, _, _, _, _, _, _, _, _, _, _, _, _, _, _, _, _, rfl, rfl, rfl, rfl, hI.mono, hS⟩
theorem met_isLive (l : Launch) (D : va_G) {cI cZ cJ : ClassId} {qK qM t : Nat} {wa wb : va_W} (ht : t ≤ 600) (hw : LW cI cZ cJ qK qM t wa wb) {q1 : Int} (hq1 : rgA q1) : ∃ (r : Int) (wb1 : va_W), Met l yX7_isLive wsX7_isLive rm_X7_isLive (PR D vwCl [(cI, .int), (cZ, .boolean), (cJ, .long)] [.ref qK, .int (iI q1)] wa) (QR (some (.int (iI r)))) 0 0 (fun _ => False) ∧ (∀ sz : Nat, Met l yX8_isLive wsX8_isLive rm_X8_isLive (PW D vwCl [(cI, .int), (cZ, .boolean), (cJ, .long)] [.ref qM, .int (iI q1)] wb sz) (QW D vwCl (some (.int (iI r))) wb1 (va_A wb sz)) 0 0 (va_A wb sz)) ∧ wb1.map Prod.fst = wb.map Prod.fst ∧ LW cI cZ cJ qK qM (t + 1) wa wb1 := by
  obtain ⟨adK, adM, work, reb, rep, on, bl, gv, al, mc, rc, slots, built, ar, spl, sl, sz, th, gfr, gsz, els, ws, laid, tm, sw, buf, bytes, len, wt, live, mem, rmem, st, ln, ov, area, spare, str, words, rE, rK, pos, num, dep, bf, size, list, moved, pl, starts, kat, el, lg, hd, tl, nx, sk, ls, whole, ed, cA, wA, nA, tA, tak, rfl, rfl, rfl, rfl, hI, hS⟩ := hw
  obtain ⟨a1, a2, a3, a4, a5, a6, a7, a8, a9, b1, b2, b3, b4, b5⟩ := id hI
  have hg0 := a4.1
  have hg1 := a4.2.1
  have hcn := a7.rg
  have hcl : cntL live gv.toNat ≤ 40 := by have := a7.2.1; omega
  have hq11 := hq1.1
  have hq12 := hq1.2
  obtain ⟨r, h7, h8⟩ := op_isLive (gv := gv) (k := q1) (th := th) (bytes := bytes) (len := len) (wt := wt) (live := live) a4 (by omega) (by omega)
  exact ⟨r, _, c_X7_isLive l D cI cZ cJ h7, fun sz => c_X8_isLive l D cI cZ cJ h8, rfl, adK, adM, _, _, _, _, _, _, _, _, _, _, _, _, _, _, _, _, _, _, _, _, _, _, _, _, _, _, _, _, _, _, _, _, _, _, _, _, _, _, _, _, _, _, _, _, _, _, _, _, _, _, _, _, _, _, _, _, _, _, _, _, _, _, _, rfl, rfl, rfl, rfl, hI.mono, hS⟩
theorem met_liveCount (l : Launch) (D : va_G) {cI cZ cJ : ClassId} {qK qM t : Nat} {wa wb : va_W} (ht : t ≤ 600) (hw : LW cI cZ cJ qK qM t wa wb) : ∃ (r : Int) (wb1 : va_W), Met l yX7_liveCount wsX7_liveCount rm_X7_liveCount (PR D vwCl [(cI, .int), (cZ, .boolean), (cJ, .long)] [.ref qK] wa) (QR (some (.int (iI r)))) 0 0 (fun _ => False) ∧ (∀ sz : Nat, Met l yX8_liveCount wsX8_liveCount rm_X8_liveCount (PW D vwCl [(cI, .int), (cZ, .boolean), (cJ, .long)] [.ref qM] wb sz) (QW D vwCl (some (.int (iI r))) wb1 (va_A wb sz)) 0 0 (va_A wb sz)) ∧ wb1.map Prod.fst = wb.map Prod.fst ∧ LW cI cZ cJ qK qM (t + 1) wa wb1 := by
  obtain ⟨adK, adM, work, reb, rep, on, bl, gv, al, mc, rc, slots, built, ar, spl, sl, sz, th, gfr, gsz, els, ws, laid, tm, sw, buf, bytes, len, wt, live, mem, rmem, st, ln, ov, area, spare, str, words, rE, rK, pos, num, dep, bf, size, list, moved, pl, starts, kat, el, lg, hd, tl, nx, sk, ls, whole, ed, cA, wA, nA, tA, tak, rfl, rfl, rfl, rfl, hI, hS⟩ := hw
  obtain ⟨a1, a2, a3, a4, a5, a6, a7, a8, a9, b1, b2, b3, b4, b5⟩ := id hI
  have hg0 := a4.1
  have hg1 := a4.2.1
  have hcn := a7.rg
  have hcl : cntL live gv.toNat ≤ 40 := by have := a7.2.1; omega
  subst a6
  obtain ⟨r, h7, h8⟩ := op_liveCount (gv := gv) (th := th) (live := live) (by omega) (by omega) (fun k x y => (a4.2.2 k x y).2.2.2.2.1)
  exact ⟨r, _, c_X7_liveCount l D cI cZ cJ h7, fun sz => c_X8_liveCount l D cI cZ cJ h8, rfl, adK, adM, _, _, _, _, _, _, _, _, _, _, _, _, _, _, _, _, _, _, _, _, _, _, _, _, _, _, _, _, _, _, _, _, _, _, _, _, _, _, _, _, _, _, _, _, _, _, _, _, _, _, _, _, _, _, _, _, _, _, _, _, _, _, _, rfl, rfl, rfl, rfl, hI.mono, hS⟩
