theorem met_scan (l : Launch) (D : va_G) {cI cZ cJ : ClassId} {qK qM t : Nat} {wa wb : va_W} (ht : t ≤ 600) (hw : LW cI cZ cJ qK qM t wa wb) {q1 : Int} (hq1 : rgA q1) : ∃ (r : Int) (wa1 wb1 : va_W), (∀ sz : Nat, Met l yX7_scan wsX7_scan rm_X7_scan (PW D vwCl [(cI, .int), (cZ, .boolean), (cJ, .long)] [.ref qK, .int (iI q1)] wa sz) (QW D vwCl (some (.int (iI r))) wa1 (va_A wa sz)) 0 0 (va_A wa sz)) ∧ (∀ sz : Nat, Met l yX8_scan wsX8_scan rm_X8_scan (PW D vwCl [(cI, .int), (cZ, .boolean), (cJ, .long)] [.ref qM, .int (iI q1)] wb sz) (QW D vwCl (some (.int (iI r))) wb1 (va_A wb sz)) 0 0 (va_A wb sz)) ∧ wa1.map Prod.fst = wa.map Prod.fst ∧ wb1.map Prod.fst = wb.map Prod.fst ∧ LW cI cZ cJ qK qM (t + 1) wa1 wb1 := by
  obtain ⟨adK, adM, work, reb, rep, on, bl, gv, al, mc, rc, slots, built, ar, spl, sl, sz, th, gfr, gsz, els, ws, laid, tm, sw, buf, bytes, len, wt, live, mem, rmem, st, ln, ov, area, spare, str, words, rE, rK, pos, num, dep, bf, size, list, moved, pl, starts, kat, el, lg, hd, tl, nx, sk, ls, whole, ed, cA, wA, nA, tA, tak, rfl, rfl, rfl, rfl, hI, hS⟩ := hw
  obtain ⟨a1, a2, a3, a4, a5, a6, a7, a8, a9, b1, b2, b3, b4, b5⟩ := id hI
  have hg0 := a4.1
  have hg1 := a4.2.1
  have hcn := a7.rg
  have hcl : cntL live gv.toNat ≤ 40 := by have := a7.2.1; omega
  have hq11 := hq1.1
  have hq12 := hq1.2
  obtain ⟨r, rep2, bl2, sl2, str2, words2, rE2, rK2, h7, h8, c1, c2, c3, c4, c5, c6, c7, c8⟩ := op_scan (gv := gv) (on := on) (bl := bl) (n := q1) (sl := sl) (rep := rep) (th := th) (len := len) (bytes := bytes) (wt := wt) (live := live) (buf := buf) (str := str) (words := words) (rE := rE) (rK := rK) a4 a5 (by omega) (by omega) (by omega) (by omega) a3 (by omega) (by omega) b3 b4 (by omega) (by omega) (by omega) (by omega)
  exact ⟨r, _, _, fun sz => c_X7_scan l D cI cZ cJ h7, fun sz => c_X8_scan l D cI cZ cJ h8, rfl, rfl, adK, adM, _, _, _, _, _, _, _, _, _, _, _, _, _, _, _, _, _, _, _, _, _, _, _, _, _, _, _, _, _, _, _, _, _, _, _, _, _, _, _, _, _, _, _, _, _, _, _, _, _, _, _, _, _, _, _, _, _, _, _, _, _, _, _, rfl, rfl, rfl, rfl, ⟨a1, ⟨c1, c2⟩, a3, a4, a5, a6, a7, a8, a9, b1, ⟨c3, c4⟩, c5, c6, c7, by omega⟩, hS⟩
theorem met_resetStream (l : Launch) (D : va_G) {cI cZ cJ : ClassId} {qK qM t : Nat} {wa wb : va_W} (ht : t ≤ 600) (hw : LW cI cZ cJ qK qM t wa wb) : ∃ (r : Int) (wa1 wb1 : va_W), (∀ sz : Nat, Met l yX7_resetStream wsX7_resetStream rm_X7_resetStream (PW D vwCl [(cI, .int), (cZ, .boolean), (cJ, .long)] [.ref qK] wa sz) (QW D vwCl (some (.int (iI r))) wa1 (va_A wa sz)) 0 0 (va_A wa sz)) ∧ (∀ sz : Nat, Met l yX8_resetStream wsX8_resetStream rm_X8_resetStream (PW D vwCl [(cI, .int), (cZ, .boolean), (cJ, .long)] [.ref qM] wb sz) (QW D vwCl (some (.int (iI r))) wb1 (va_A wb sz)) 0 0 (va_A wb sz)) ∧ wa1.map Prod.fst = wa.map Prod.fst ∧ wb1.map Prod.fst = wb.map Prod.fst ∧ LW cI cZ cJ qK qM (t + 1) wa1 wb1 := by
  obtain ⟨adK, adM, work, reb, rep, on, bl, gv, al, mc, rc, slots, built, ar, spl, sl, sz, th, gfr, gsz, els, ws, laid, tm, sw, buf, bytes, len, wt, live, mem, rmem, st, ln, ov, area, spare, str, words, rE, rK, pos, num, dep, bf, size, list, moved, pl, starts, kat, el, lg, hd, tl, nx, sk, ls, whole, ed, cA, wA, nA, tA, tak, rfl, rfl, rfl, rfl, hI, hS⟩ := hw
  obtain ⟨a1, a2, a3, a4, a5, a6, a7, a8, a9, b1, b2, b3, b4, b5⟩ := id hI
  have hg0 := a4.1
  have hg1 := a4.2.1
  have hcn := a7.rg
  have hcl : cntL live gv.toNat ≤ 40 := by have := a7.2.1; omega
  obtain ⟨words2, h7, h8, c1⟩ := op_resetStream (on := on) (bl := bl) (gv := gv) (sl := sl) (rep := rep) (al := al) (mc := mc) (rc := rc) (th := th) (rs := (mn3 rep)) (buf := buf) (len := len) (bytes := bytes) (wt := wt) (live := live) (str := str) (mem := mem) (rmem := rmem) (words := words) (size := size) (list := list) hI
  exact ⟨sl, _, _, fun sz => c_X7_resetStream l D cI cZ cJ h7, fun sz => c_X8_resetStream l D cI cZ cJ h8, rfl, rfl, adK, adM, _, _, _, _, _, _, _, _, _, _, _, _, _, _, _, _, _, _, _, _, _, _, _, _, _, _, _, _, _, _, _, _, _, _, _, _, _, _, _, _, _, _, _, _, _, _, _, _, _, _, _, _, _, _, _, _, _, _, _, _, _, _, _, rfl, rfl, rfl, rfl, c1.mono, hS⟩
theorem met_streamLength (l : Launch) (D : va_G) {cI cZ cJ : ClassId} {qK qM t : Nat} {wa wb : va_W} (ht : t ≤ 600) (hw : LW cI cZ cJ qK qM t wa wb) : ∃ (r : Int) (wb1 : va_W), Met l yX7_streamLength wsX7_streamLength rm_X7_streamLength (PR D vwCl [(cI, .int), (cZ, .boolean), (cJ, .long)] [.ref qK] wa) (QR (some (.int (iI r)))) 0 0 (fun _ => False) ∧ (∀ sz : Nat, Met l yX8_streamLength wsX8_streamLength rm_X8_streamLength (PW D vwCl [(cI, .int), (cZ, .boolean), (cJ, .long)] [.ref qM] wb sz) (QW D vwCl (some (.int (iI r))) wb1 (va_A wb sz)) 0 0 (va_A wb sz)) ∧ wb1.map Prod.fst = wb.map Prod.fst ∧ LW cI cZ cJ qK qM (t + 1) wa wb1 := by
  obtain ⟨adK, adM, work, reb, rep, on, bl, gv, al, mc, rc, slots, built, ar, spl, sl, sz, th, gfr, gsz, els, ws, laid, tm, sw, buf, bytes, len, wt, live, mem, rmem, st, ln, ov, area, spare, str, words, rE, rK, pos, num, dep, bf, size, list, moved, pl, starts, kat, el, lg, hd, tl, nx, sk, ls, whole, ed, cA, wA, nA, tA, tak, rfl, rfl, rfl, rfl, hI, hS⟩ := hw
  obtain ⟨a1, a2, a3, a4, a5, a6, a7, a8, a9, b1, b2, b3, b4, b5⟩ := id hI
  have hg0 := a4.1
  have hg1 := a4.2.1
  have hcn := a7.rg
  have hcl : cntL live gv.toNat ≤ 40 := by have := a7.2.1; omega
  have h7 : s_X7_streamLength sl = some sl := rfl
  have h8 : s_X8_streamLength th sl = some (sl, 0) := rfl
  exact ⟨sl, _, c_X7_streamLength l D cI cZ cJ h7, fun sz => c_X8_streamLength l D cI cZ cJ h8, rfl, adK, adM, _, _, _, _, _, _, _, _, _, _, _, _, _, _, _, _, _, _, _, _, _, _, _, _, _, _, _, _, _, _, _, _, _, _, _, _, _, _, _, _, _, _, _, _, _, _, _, _, _, _, _, _, _, _, _, _, _, _, _, _, _, _, _, rfl, rfl, rfl, rfl, hI.mono, hS⟩
theorem met_streamByte (l : Launch) (D : va_G) {cI cZ cJ : ClassId} {qK qM t : Nat} {wa wb : va_W} (ht : t ≤ 600) (hw : LW cI cZ cJ qK qM t wa wb) {q1 : Int} (hq1 : rgA q1) : ∃ (r : Int) (wb1 : va_W), Met l yX7_streamByte wsX7_streamByte rm_X7_streamByte (PR D vwCl [(cI, .int), (cZ, .boolean), (cJ, .long)] [.ref qK, .int (iI q1)] wa) (QR (some (.int (iI r)))) 0 0 (fun _ => False) ∧ (∀ sz : Nat, Met l yX8_streamByte wsX8_streamByte rm_X8_streamByte (PW D vwCl [(cI, .int), (cZ, .boolean), (cJ, .long)] [.ref qM, .int (iI q1)] wb sz) (QW D vwCl (some (.int (iI r))) wb1 (va_A wb sz)) 0 0 (va_A wb sz)) ∧ wb1.map Prod.fst = wb.map Prod.fst ∧ LW cI cZ cJ qK qM (t + 1) wa wb1 := by
  obtain ⟨adK, adM, work, reb, rep, on, bl, gv, al, mc, rc, slots, built, ar, spl, sl, sz, th, gfr, gsz, els, ws, laid, tm, sw, buf, bytes, len, wt, live, mem, rmem, st, ln, ov, area, spare, str, words, rE, rK, pos, num, dep, bf, size, list, moved, pl, starts, kat, el, lg, hd, tl, nx, sk, ls, whole, ed, cA, wA, nA, tA, tak, rfl, rfl, rfl, rfl, hI, hS⟩ := hw
  obtain ⟨a1, a2, a3, a4, a5, a6, a7, a8, a9, b1, b2, b3, b4, b5⟩ := id hI
  have hg0 := a4.1
  have hg1 := a4.2.1
  have hcn := a7.rg
  have hcl : cntL live gv.toNat ≤ 40 := by have := a7.2.1; omega
  have hq11 := hq1.1
  have hq12 := hq1.2
  obtain ⟨r, h7, h8⟩ := op_streamByte (sl := sl) (p := q1) (th := th) (str := str) (by omega) (by omega) (by omega) (by omega)
  exact ⟨r, _, c_X7_streamByte l D cI cZ cJ h7, fun sz => c_X8_streamByte l D cI cZ cJ h8, rfl, adK, adM, _, _, _, _, _, _, _, _, _, _, _, _, _, _, _, _, _, _, _, _, _, _, _, _, _, _, _, _, _, _, _, _, _, _, _, _, _, _, _, _, _, _, _, _, _, _, _, _, _, _, _, _, _, _, _, _, _, _, _, _, _, _, _, rfl, rfl, rfl, rfl, hI.mono, hS⟩
theorem met_reportCount (l : Launch) (D : va_G) {cI cZ cJ : ClassId} {qK qM t : Nat} {wa wb : va_W} (ht : t ≤ 600) (hw : LW cI cZ cJ qK qM t wa wb) : ∃ (r : Int) (wb1 : va_W), Met l yX7_reportCount wsX7_reportCount rm_X7_reportCount (PR D vwCl [(cI, .int), (cZ, .boolean), (cJ, .long)] [.ref qK] wa) (QR (some (.int (iI r)))) 0 0 (fun _ => False) ∧ (∀ sz : Nat, Met l yX8_reportCount wsX8_reportCount rm_X8_reportCount (PW D vwCl [(cI, .int), (cZ, .boolean), (cJ, .long)] [.ref qM] wb sz) (QW D vwCl (some (.int (iI r))) wb1 (va_A wb sz)) 0 0 (va_A wb sz)) ∧ wb1.map Prod.fst = wb.map Prod.fst ∧ LW cI cZ cJ qK qM (t + 1) wa wb1 := by
  obtain ⟨adK, adM, work, reb, rep, on, bl, gv, al, mc, rc, slots, built, ar, spl, sl, sz, th, gfr, gsz, els, ws, laid, tm, sw, buf, bytes, len, wt, live, mem, rmem, st, ln, ov, area, spare, str, words, rE, rK, pos, num, dep, bf, size, list, moved, pl, starts, kat, el, lg, hd, tl, nx, sk, ls, whole, ed, cA, wA, nA, tA, tak, rfl, rfl, rfl, rfl, hI, hS⟩ := hw
  obtain ⟨a1, a2, a3, a4, a5, a6, a7, a8, a9, b1, b2, b3, b4, b5⟩ := id hI
  have hg0 := a4.1
  have hg1 := a4.2.1
  have hcn := a7.rg
  have hcl : cntL live gv.toNat ≤ 40 := by have := a7.2.1; omega
  have h7 : s_X7_reportCount rep = some rep := rfl
  have h8 : s_X8_reportCount th rep = some (rep, 0) := rfl
  exact ⟨rep, _, c_X7_reportCount l D cI cZ cJ h7, fun sz => c_X8_reportCount l D cI cZ cJ h8, rfl, adK, adM, _, _, _, _, _, _, _, _, _, _, _, _, _, _, _, _, _, _, _, _, _, _, _, _, _, _, _, _, _, _, _, _, _, _, _, _, _, _, _, _, _, _, _, _, _, _, _, _, _, _, _, _, _, _, _, _, _, _, _, _, _, _, _, rfl, rfl, rfl, rfl, hI.mono, hS⟩
theorem met_reportEnd (l : Launch) (D : va_G) {cI cZ cJ : ClassId} {qK qM t : Nat} {wa wb : va_W} (ht : t ≤ 600) (hw : LW cI cZ cJ qK qM t wa wb) {q1 : Int} (hq1 : rgA q1) : ∃ (r : Int) (wb1 : va_W), Met l yX7_reportEnd wsX7_reportEnd rm_X7_reportEnd (PR D vwCl [(cI, .int), (cZ, .boolean), (cJ, .long)] [.ref qK, .int (iI q1)] wa) (QR (some (.int (iI r)))) 0 0 (fun _ => False) ∧ (∀ sz : Nat, Met l yX8_reportEnd wsX8_reportEnd rm_X8_reportEnd (PW D vwCl [(cI, .int), (cZ, .boolean), (cJ, .long)] [.ref qM, .int (iI q1)] wb sz) (QW D vwCl (some (.int (iI r))) wb1 (va_A wb sz)) 0 0 (va_A wb sz)) ∧ wb1.map Prod.fst = wb.map Prod.fst ∧ LW cI cZ cJ qK qM (t + 1) wa wb1 := by
  obtain ⟨adK, adM, work, reb, rep, on, bl, gv, al, mc, rc, slots, built, ar, spl, sl, sz, th, gfr, gsz, els, ws, laid, tm, sw, buf, bytes, len, wt, live, mem, rmem, st, ln, ov, area, spare, str, words, rE, rK, pos, num, dep, bf, size, list, moved, pl, starts, kat, el, lg, hd, tl, nx, sk, ls, whole, ed, cA, wA, nA, tA, tak, rfl, rfl, rfl, rfl, hI, hS⟩ := hw
  obtain ⟨a1, a2, a3, a4, a5, a6, a7, a8, a9, b1, b2, b3, b4, b5⟩ := id hI
  have hg0 := a4.1
  have hg1 := a4.2.1
  have hcn := a7.rg
  have hcl : cntL live gv.toNat ≤ 40 := by have := a7.2.1; omega
  have hq11 := hq1.1
  have hq12 := hq1.2
  obtain ⟨r, h7, h8⟩ := op_reportEnd (rep := rep) (rs := (mn3 rep)) (p := q1) (th := th) (e := rE) (by omega) (by omega) rfl (by omega) (by omega)
  exact ⟨r, _, c_X7_reportEnd l D cI cZ cJ h7, fun sz => c_X8_reportEnd l D cI cZ cJ h8, rfl, adK, adM, _, _, _, _, _, _, _, _, _, _, _, _, _, _, _, _, _, _, _, _, _, _, _, _, _, _, _, _, _, _, _, _, _, _, _, _, _, _, _, _, _, _, _, _, _, _, _, _, _, _, _, _, _, _, _, _, _, _, _, _, _, _, _, rfl, rfl, rfl, rfl, hI.mono, hS⟩
theorem met_reportKeyword (l : Launch) (D : va_G) {cI cZ cJ : ClassId} {qK qM t : Nat} {wa wb : va_W} (ht : t ≤ 600) (hw : LW cI cZ cJ qK qM t wa wb) {q1 : Int} (hq1 : rgA q1) : ∃ (r : Int) (wb1 : va_W), Met l yX7_reportKeyword wsX7_reportKeyword rm_X7_reportKeyword (PR D vwCl [(cI, .int), (cZ, .boolean), (cJ, .long)] [.ref qK, .int (iI q1)] wa) (QR (some (.int (iI r)))) 0 0 (fun _ => False) ∧ (∀ sz : Nat, Met l yX8_reportKeyword wsX8_reportKeyword rm_X8_reportKeyword (PW D vwCl [(cI, .int), (cZ, .boolean), (cJ, .long)] [.ref qM, .int (iI q1)] wb sz) (QW D vwCl (some (.int (iI r))) wb1 (va_A wb sz)) 0 0 (va_A wb sz)) ∧ wb1.map Prod.fst = wb.map Prod.fst ∧ LW cI cZ cJ qK qM (t + 1) wa wb1 := by
  obtain ⟨adK, adM, work, reb, rep, on, bl, gv, al, mc, rc, slots, built, ar, spl, sl, sz, th, gfr, gsz, els, ws, laid, tm, sw, buf, bytes, len, wt, live, mem, rmem, st, ln, ov, area, spare, str, words, rE, rK, pos, num, dep, bf, size, list, moved, pl, starts, kat, el, lg, hd, tl, nx, sk, ls, whole, ed, cA, wA, nA, tA, tak, rfl, rfl, rfl, rfl, hI, hS⟩ := hw
  obtain ⟨a1, a2, a3, a4, a5, a6, a7, a8, a9, b1, b2, b3, b4, b5⟩ := id hI
  have hg0 := a4.1
  have hg1 := a4.2.1
  have hcn := a7.rg
  have hcl : cntL live gv.toNat ≤ 40 := by have := a7.2.1; omega
  have hq11 := hq1.1
  have hq12 := hq1.2
  obtain ⟨r, h7, h8⟩ := op_reportKeyword (rep := rep) (rs := (mn3 rep)) (p := q1) (th := th) (e := rK) (by omega) (by omega) rfl (by omega) (by omega)
  exact ⟨r, _, c_X7_reportKeyword l D cI cZ cJ h7, fun sz => c_X8_reportKeyword l D cI cZ cJ h8, rfl, adK, adM, _, _, _, _, _, _, _, _, _, _, _, _, _, _, _, _, _, _, _, _, _, _, _, _, _, _, _, _, _, _, _, _, _, _, _, _, _, _, _, _, _, _, _, _, _, _, _, _, _, _, _, _, _, _, _, _, _, _, _, _, _, _, _, rfl, rfl, rfl, rfl, hI.mono, hS⟩
theorem met_matchCount (l : Launch) (D : va_G) {cI cZ cJ : ClassId} {qK qM t : Nat} {wa wb : va_W} (ht : t ≤ 600) (hw : LW cI cZ cJ qK qM t wa wb) : ∃ (r : Int) (wb1 : va_W), Met l yX7_matchCount wsX7_matchCount rm_X7_matchCount (PR D vwCl [(cI, .int), (cZ, .boolean), (cJ, .long)] [.ref qK] wa) (QR (some (.int (iI r)))) 0 0 (fun _ => False) ∧ (∀ sz : Nat, Met l yX8_matchCount wsX8_matchCount rm_X8_matchCount (PW D vwCl [(cI, .int), (cZ, .boolean), (cJ, .long)] [.ref qM] wb sz) (QW D vwCl (some (.int (iI r))) wb1 (va_A wb sz)) 0 0 (va_A wb sz)) ∧ wb1.map Prod.fst = wb.map Prod.fst ∧ LW cI cZ cJ qK qM (t + 1) wa wb1 := by
  obtain ⟨adK, adM, work, reb, rep, on, bl, gv, al, mc, rc, slots, built, ar, spl, sl, sz, th, gfr, gsz, els, ws, laid, tm, sw, buf, bytes, len, wt, live, mem, rmem, st, ln, ov, area, spare, str, words, rE, rK, pos, num, dep, bf, size, list, moved, pl, starts, kat, el, lg, hd, tl, nx, sk, ls, whole, ed, cA, wA, nA, tA, tak, rfl, rfl, rfl, rfl, hI, hS⟩ := hw
  obtain ⟨a1, a2, a3, a4, a5, a6, a7, a8, a9, b1, b2, b3, b4, b5⟩ := id hI
  have hg0 := a4.1
  have hg1 := a4.2.1
  have hcn := a7.rg
  have hcl : cntL live gv.toNat ≤ 40 := by have := a7.2.1; omega
  obtain ⟨r, s2, k2, h7, h8⟩ := op_matchCount (gv := gv) (on := on) (sl := sl) (th := th) (len := len) (bytes := bytes) (wt := wt) (live := live) (str := str) (words := words) (starts := starts) (kat := kat) a4 a5 (by omega) (by omega) (by omega) (by omega) (rb_of b3) b4
  exact ⟨r, _, c_X7_matchCount l D cI cZ cJ h7, fun sz => c_X8_matchCount l D cI cZ cJ h8, rfl, adK, adM, _, _, _, _, _, _, _, _, _, _, _, _, _, _, _, _, _, _, _, _, _, _, _, _, _, _, _, _, _, _, _, _, _, _, _, _, _, _, _, _, _, _, _, _, _, _, _, _, _, _, _, _, _, _, _, _, _, _, _, _, _, _, _, rfl, rfl, rfl, rfl, hI.mono, hS⟩
theorem met_matchCountOf (l : Launch) (D : va_G) {cI cZ cJ : ClassId} {qK qM t : Nat} {wa wb : va_W} (ht : t ≤ 600) (hw : LW cI cZ cJ qK qM t wa wb) {q1 : Int} (hq1 : rgA q1) : ∃ (r : Int) (wb1 : va_W), Met l yX7_matchCountOf wsX7_matchCountOf rm_X7_matchCountOf (PR D vwCl [(cI, .int), (cZ, .boolean), (cJ, .long)] [.ref qK, .int (iI q1)] wa) (QR (some (.int (iI r)))) 0 0 (fun _ => False) ∧ (∀ sz : Nat, Met l yX8_matchCountOf wsX8_matchCountOf rm_X8_matchCountOf (PW D vwCl [(cI, .int), (cZ, .boolean), (cJ, .long)] [.ref qM, .int (iI q1)] wb sz) (QW D vwCl (some (.int (iI r))) wb1 (va_A wb sz)) 0 0 (va_A wb sz)) ∧ wb1.map Prod.fst = wb.map Prod.fst ∧ LW cI cZ cJ qK qM (t + 1) wa wb1 := by
  obtain ⟨adK, adM, work, reb, rep, on, bl, gv, al, mc, rc, slots, built, ar, spl, sl, sz, th, gfr, gsz, els, ws, laid, tm, sw, buf, bytes, len, wt, live, mem, rmem, st, ln, ov, area, spare, str, words, rE, rK, pos, num, dep, bf, size, list, moved, pl, starts, kat, el, lg, hd, tl, nx, sk, ls, whole, ed, cA, wA, nA, tA, tak, rfl, rfl, rfl, rfl, hI, hS⟩ := hw
  obtain ⟨a1, a2, a3, a4, a5, a6, a7, a8, a9, b1, b2, b3, b4, b5⟩ := id hI
  have hg0 := a4.1
  have hg1 := a4.2.1
  have hcn := a7.rg
  have hcl : cntL live gv.toNat ≤ 40 := by have := a7.2.1; omega
  have hq11 := hq1.1
  have hq12 := hq1.2
  obtain ⟨r, h7, h8⟩ := op_matchCountOf (gv := gv) (on := on) (sl := sl) (k := q1) (th := th) (len := len) (bytes := bytes) (wt := wt) (live := live) (str := str) (words := words) a4 a5 (by omega) (by omega) (by omega) (by omega) (rb_of b3) b4 (by omega) (by omega)
  exact ⟨r, _, c_X7_matchCountOf l D cI cZ cJ h7, fun sz => c_X8_matchCountOf l D cI cZ cJ h8, rfl, adK, adM, _, _, _, _, _, _, _, _, _, _, _, _, _, _, _, _, _, _, _, _, _, _, _, _, _, _, _, _, _, _, _, _, _, _, _, _, _, _, _, _, _, _, _, _, _, _, _, _, _, _, _, _, _, _, _, _, _, _, _, _, _, _, _, rfl, rfl, rfl, rfl, hI.mono, hS⟩
theorem met_nextMatch (l : Launch) (D : va_G) {cI cZ cJ : ClassId} {qK qM t : Nat} {wa wb : va_W} (ht : t ≤ 600) (hw : LW cI cZ cJ qK qM t wa wb) {q1 q2 : Int} (hq1 : rgA q1) (hq2 : rgA q2) : ∃ (r : Int) (wb1 : va_W), Met l yX7_nextMatch wsX7_nextMatch rm_X7_nextMatch (PR D vwCl [(cI, .int), (cZ, .boolean), (cJ, .long)] [.ref qK, .int (iI q1), .int (iI q2)] wa) (QR (some (.int (iI r)))) 0 0 (fun _ => False) ∧ (∀ sz : Nat, Met l yX8_nextMatch wsX8_nextMatch rm_X8_nextMatch (PW D vwCl [(cI, .int), (cZ, .boolean), (cJ, .long)] [.ref qM, .int (iI q1), .int (iI q2)] wb sz) (QW D vwCl (some (.int (iI r))) wb1 (va_A wb sz)) 0 0 (va_A wb sz)) ∧ wb1.map Prod.fst = wb.map Prod.fst ∧ LW cI cZ cJ qK qM (t + 1) wa wb1 := by
  obtain ⟨adK, adM, work, reb, rep, on, bl, gv, al, mc, rc, slots, built, ar, spl, sl, sz, th, gfr, gsz, els, ws, laid, tm, sw, buf, bytes, len, wt, live, mem, rmem, st, ln, ov, area, spare, str, words, rE, rK, pos, num, dep, bf, size, list, moved, pl, starts, kat, el, lg, hd, tl, nx, sk, ls, whole, ed, cA, wA, nA, tA, tak, rfl, rfl, rfl, rfl, hI, hS⟩ := hw
  obtain ⟨a1, a2, a3, a4, a5, a6, a7, a8, a9, b1, b2, b3, b4, b5⟩ := id hI
  have hg0 := a4.1
  have hg1 := a4.2.1
  have hcn := a7.rg
  have hcl : cntL live gv.toNat ≤ 40 := by have := a7.2.1; omega
  have hq11 := hq1.1
  have hq12 := hq1.2
  have hq21 := hq2.1
  have hq22 := hq2.2
  obtain ⟨r, h7, h8⟩ := op_nextMatch (gv := gv) (on := on) (sl := sl) (k := q1) (a := q2) (th := th) (len := len) (bytes := bytes) (wt := wt) (live := live) (str := str) (words := words) a4 a5 (by omega) (by omega) (by omega) (by omega) (rb_of b3) b4 (by omega) (by omega) (by omega) (by omega)
  exact ⟨r, _, c_X7_nextMatch l D cI cZ cJ h7, fun sz => c_X8_nextMatch l D cI cZ cJ h8, rfl, adK, adM, _, _, _, _, _, _, _, _, _, _, _, _, _, _, _, _, _, _, _, _, _, _, _, _, _, _, _, _, _, _, _, _, _, _, _, _, _, _, _, _, _, _, _, _, _, _, _, _, _, _, _, _, _, _, _, _, _, _, _, _, _, _, _, rfl, rfl, rfl, rfl, hI.mono, hS⟩
