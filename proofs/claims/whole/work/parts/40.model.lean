-- THE REFERENCE: one object at m with its arrays behind it; ints by field number, arrays by the address behind m
abbrev MS : Type := (Nat → Int32) × Int64 × (Nat → Nat → Int32) × (Nat → Nat → Int64) × (Nat → Int32)
abbrev mF (M : MS) : Nat → Int32 := M.1
abbrev mA (M : MS) : Nat → Nat → Int32 := M.2.2.1
abbrev mL (M : MS) : Nat → Nat → Int64 := M.2.2.2.1
def setF (M : MS) (k : Nat) (v : Int32) : MS := (vf_upd (mF M) k v, M.2)
def setA (M : MS) (k : Nat) (v : Nat → Int32) : MS := (M.1, M.2.1, vf_upd (mA M) k v, M.2.2.2)
def setL (M : MS) (k : Nat) (v : Nat → Int64) : MS := (M.1, M.2.1, M.2.2.1, vf_upd (mL M) k v, M.2.2.2.2)
def swrd (M : MS) (v : Int64) : MS := (M.1, v, M.2.2)
def siss (M : MS) (v : Nat → Int32) : MS := (M.1, M.2.1, M.2.2.1, M.2.2.2.1, v)
abbrev gwrd (M : MS) : Int64 := M.2.1
abbrev giss (M : MS) : Nat → Int32 := M.2.2.2.2
abbrev gthr (M : MS) : Int32 := mF M 7
abbrev sthr (M : MS) (v : Int32) : MS := setF M 7 v
abbrev grcnt (M : MS) : Int32 := mF M 9
abbrev srcnt (M : MS) (v : Int32) : MS := setF M 9 v
abbrev grlen (M : MS) : Int32 := mF M 10
abbrev srlen (M : MS) (v : Int32) : MS := setF M 10 v
abbrev grval (M : MS) : Int32 := mF M 11
abbrev srval (M : MS) (v : Int32) : MS := setF M 11 v
abbrev gbl (M : MS) : Int32 := mF M 13
abbrev sbl (M : MS) (v : Int32) : MS := setF M 13 v
abbrev gbp (M : MS) : Int32 := mF M 14
abbrev sbp (M : MS) (v : Int32) : MS := setF M 14 v
abbrev gbdr (M : MS) : Int32 := mF M 15
abbrev sbdr (M : MS) (v : Int32) : MS := setF M 15 v
abbrev gws (M : MS) : Int32 := mF M 20
abbrev sws (M : MS) (v : Int32) : MS := setF M 20 v
abbrev gtl (M : MS) : Int32 := mF M 22
abbrev stl (M : MS) (v : Int32) : MS := setF M 22 v
abbrev gpos (M : MS) : Int32 := mF M 23
abbrev spos (M : MS) (v : Int32) : MS := setF M 23 v
abbrev gtst (M : MS) : Int32 := mF M 24
abbrev stst (M : MS) (v : Int32) : MS := setF M 24 v
abbrev gtok (M : MS) : Int32 := mF M 25
abbrev stok (M : MS) (v : Int32) : MS := setF M 25 v
abbrev glet (M : MS) : Int32 := mF M 26
abbrev slet (M : MS) (v : Int32) : MS := setF M 26 v
abbrev gnum (M : MS) : Int32 := mF M 27
abbrev snum (M : MS) (v : Int32) : MS := setF M 27 v
abbrev gec (M : MS) : Int32 := mF M 28
abbrev sec (M : MS) (v : Int32) : MS := setF M 28 v
abbrev gep (M : MS) : Int32 := mF M 29
abbrev sep (M : MS) (v : Int32) : MS := setF M 29 v
abbrev gbrd (M : MS) : Nat → Int32 := mA M 1
abbrev sbrd (M : MS) (v : Nat → Int32) : MS := setA M 1 v
abbrev gbak (M : MS) : Nat → Int32 := mA M 2
abbrev sbak (M : MS) (v : Nat → Int32) : MS := setA M 2 v
abbrev gsav (M : MS) : Nat → Int32 := mA M 3
abbrev ssav (M : MS) (v : Nat → Int32) : MS := setA M 3 v
abbrev grow (M : MS) : Nat → Int32 := mA M 8
abbrev srow (M : MS) (v : Nat → Int32) : MS := setA M 8 v
abbrev garr (M : MS) : Nat → Int32 := mA M 9
abbrev sarr (M : MS) (v : Nat → Int32) : MS := setA M 9 v
abbrev gsol (M : MS) : Nat → Int32 := mA M 10
abbrev ssol (M : MS) (v : Nat → Int32) : MS := setA M 10 v
abbrev ghol (M : MS) : Nat → Int32 := mA M 11
abbrev shol (M : MS) (v : Nat → Int32) : MS := setA M 11 v
abbrev gask (M : MS) : Nat → Int32 := mA M 12
abbrev sask (M : MS) (v : Nat → Int32) : MS := setA M 12 v
abbrev gwei (M : MS) : Nat → Int32 := mA M 13
abbrev swei (M : MS) (v : Nat → Int32) : MS := setA M 13 v
abbrev gtxt (M : MS) : Nat → Int32 := mA M 14
abbrev stxt (M : MS) (v : Nat → Int32) : MS := setA M 14 v
abbrev gplc (M : MS) : Nat → Int32 := mA M 15
abbrev splc (M : MS) (v : Nat → Int32) : MS := setA M 15 v
abbrev gcrd (M : MS) : Nat → Int64 := mL M 4
abbrev scrd (M : MS) (v : Nat → Int64) : MS := setL M 4 v
abbrev gcbk (M : MS) : Nat → Int64 := mL M 5
abbrev scbk (M : MS) (v : Nat → Int64) : MS := setL M 5 v
abbrev gcsv (M : MS) : Nat → Int64 := mL M 6
abbrev scsv (M : MS) (v : Nat → Int64) : MS := setL M 6 v
def mdO (m : Nat) (M : MS) : MC := cO 11 [.ref (m + 1), .ref (m + 2), .ref (m + 3), .ref (m + 4), .ref (m + 5), .ref (m + 6), .ref (m + 7), .int (gthr M), .ref (m + 8), .int (grcnt M), .int (grlen M), .int (grval M), .ref (m + 9), .int (gbl M), .int (gbp M), .int (gbdr M), .ref (m + 10), .ref (m + 11), .ref (m + 12), .ref (m + 13), .int (gws M), .ref (m + 14), .int (gtl M), .int (gpos M), .int (gtst M), .int (gtok M), .int (glet M), .int (gnum M), .int (gec M), .int (gep M), .long (gwrd M), .ref (m + 15)]
def Md (h0 : MH) (m : Nat) (M : MS) (h : MH) : Prop := h m = some (mdO m M) ∧ h (m + 1) = some (cI 568 (gbrd M)) ∧ h (m + 2) = some (cI 568 (gbak M)) ∧ h (m + 3) = some (cI 1136 (gsav M)) ∧ h (m + 8) = some (cI 44 (grow M)) ∧ h (m + 9) = some (cI 46 (garr M)) ∧ h (m + 10) = some (cI 160 (gsol M)) ∧ h (m + 11) = some (cI 20 (ghol M)) ∧ h (m + 12) = some (cI 20 (gask M)) ∧ h (m + 13) = some (cI 20 (gwei M)) ∧ h (m + 14) = some (cI 600 (gtxt M)) ∧ h (m + 15) = some (cI 4 (gplc M)) ∧ h (m + 4) = some (cJ 28 (gcrd M)) ∧ h (m + 5) = some (cJ 28 (gcbk M)) ∧ h (m + 6) = some (cJ 56 (gcsv M)) ∧ h (m + 7) = some (cZ 2 (giss M)) ∧ Off m (m + 16) h0 h
theorem Md.ko {h0 h : MH} {m : Nat} {M : MS} (x : Md h0 m M h) : h m = some (mdO m M) := x.1
theorem Md.kbrd {h0 h : MH} {m : Nat} {M : MS} (x : Md h0 m M h) : h (m + 1) = some (cI 568 (gbrd M)) := x.2.1
theorem Md.kbak {h0 h : MH} {m : Nat} {M : MS} (x : Md h0 m M h) : h (m + 2) = some (cI 568 (gbak M)) := x.2.2.1
theorem Md.ksav {h0 h : MH} {m : Nat} {M : MS} (x : Md h0 m M h) : h (m + 3) = some (cI 1136 (gsav M)) := x.2.2.2.1
theorem Md.krow {h0 h : MH} {m : Nat} {M : MS} (x : Md h0 m M h) : h (m + 8) = some (cI 44 (grow M)) := x.2.2.2.2.1
theorem Md.karr {h0 h : MH} {m : Nat} {M : MS} (x : Md h0 m M h) : h (m + 9) = some (cI 46 (garr M)) := x.2.2.2.2.2.1
theorem Md.ksol {h0 h : MH} {m : Nat} {M : MS} (x : Md h0 m M h) : h (m + 10) = some (cI 160 (gsol M)) := x.2.2.2.2.2.2.1
theorem Md.khol {h0 h : MH} {m : Nat} {M : MS} (x : Md h0 m M h) : h (m + 11) = some (cI 20 (ghol M)) := x.2.2.2.2.2.2.2.1
theorem Md.kask {h0 h : MH} {m : Nat} {M : MS} (x : Md h0 m M h) : h (m + 12) = some (cI 20 (gask M)) := x.2.2.2.2.2.2.2.2.1
theorem Md.kwei {h0 h : MH} {m : Nat} {M : MS} (x : Md h0 m M h) : h (m + 13) = some (cI 20 (gwei M)) := x.2.2.2.2.2.2.2.2.2.1
theorem Md.ktxt {h0 h : MH} {m : Nat} {M : MS} (x : Md h0 m M h) : h (m + 14) = some (cI 600 (gtxt M)) := x.2.2.2.2.2.2.2.2.2.2.1
theorem Md.kplc {h0 h : MH} {m : Nat} {M : MS} (x : Md h0 m M h) : h (m + 15) = some (cI 4 (gplc M)) := x.2.2.2.2.2.2.2.2.2.2.2.1
theorem Md.kcrd {h0 h : MH} {m : Nat} {M : MS} (x : Md h0 m M h) : h (m + 4) = some (cJ 28 (gcrd M)) := x.2.2.2.2.2.2.2.2.2.2.2.2.1
theorem Md.kcbk {h0 h : MH} {m : Nat} {M : MS} (x : Md h0 m M h) : h (m + 5) = some (cJ 28 (gcbk M)) := x.2.2.2.2.2.2.2.2.2.2.2.2.2.1
theorem Md.kcsv {h0 h : MH} {m : Nat} {M : MS} (x : Md h0 m M h) : h (m + 6) = some (cJ 56 (gcsv M)) := x.2.2.2.2.2.2.2.2.2.2.2.2.2.2.1
theorem Md.kiss {h0 h : MH} {m : Nat} {M : MS} (x : Md h0 m M h) : h (m + 7) = some (cZ 2 (giss M)) := x.2.2.2.2.2.2.2.2.2.2.2.2.2.2.2.1
theorem Md.koff {h0 h : MH} {m : Nat} {M : MS} (x : Md h0 m M h) : Off m (m + 16) h0 h := x.2.2.2.2.2.2.2.2.2.2.2.2.2.2.2.2
theorem Md.pthr {h0 h : MH} {m : Nat} {M : MS} (x : Md h0 m M h) (v : Int32) : Md h0 m (sthr M v) (mup h m (mdO m (sthr M v))) := by
  obtain ⟨x0, x1, x2, x3, x4, x5, x6, x7, x8, x9, x10, x11, x12, x13, x14, x15, x16⟩ := x
  exact ⟨mup_s _ _ _, (mup_n _ _ (by omega)).trans x1, (mup_n _ _ (by omega)).trans x2, (mup_n _ _ (by omega)).trans x3, (mup_n _ _ (by omega)).trans x4, (mup_n _ _ (by omega)).trans x5, (mup_n _ _ (by omega)).trans x6, (mup_n _ _ (by omega)).trans x7, (mup_n _ _ (by omega)).trans x8, (mup_n _ _ (by omega)).trans x9, (mup_n _ _ (by omega)).trans x10, (mup_n _ _ (by omega)).trans x11, (mup_n _ _ (by omega)).trans x12, (mup_n _ _ (by omega)).trans x13, (mup_n _ _ (by omega)).trans x14, (mup_n _ _ (by omega)).trans x15, x16.m _ (by omega) (by omega)⟩
theorem Md.prcnt {h0 h : MH} {m : Nat} {M : MS} (x : Md h0 m M h) (v : Int32) : Md h0 m (srcnt M v) (mup h m (mdO m (srcnt M v))) := by
  obtain ⟨x0, x1, x2, x3, x4, x5, x6, x7, x8, x9, x10, x11, x12, x13, x14, x15, x16⟩ := x
  exact ⟨mup_s _ _ _, (mup_n _ _ (by omega)).trans x1, (mup_n _ _ (by omega)).trans x2, (mup_n _ _ (by omega)).trans x3, (mup_n _ _ (by omega)).trans x4, (mup_n _ _ (by omega)).trans x5, (mup_n _ _ (by omega)).trans x6, (mup_n _ _ (by omega)).trans x7, (mup_n _ _ (by omega)).trans x8, (mup_n _ _ (by omega)).trans x9, (mup_n _ _ (by omega)).trans x10, (mup_n _ _ (by omega)).trans x11, (mup_n _ _ (by omega)).trans x12, (mup_n _ _ (by omega)).trans x13, (mup_n _ _ (by omega)).trans x14, (mup_n _ _ (by omega)).trans x15, x16.m _ (by omega) (by omega)⟩
theorem Md.prlen {h0 h : MH} {m : Nat} {M : MS} (x : Md h0 m M h) (v : Int32) : Md h0 m (srlen M v) (mup h m (mdO m (srlen M v))) := by
  obtain ⟨x0, x1, x2, x3, x4, x5, x6, x7, x8, x9, x10, x11, x12, x13, x14, x15, x16⟩ := x
  exact ⟨mup_s _ _ _, (mup_n _ _ (by omega)).trans x1, (mup_n _ _ (by omega)).trans x2, (mup_n _ _ (by omega)).trans x3, (mup_n _ _ (by omega)).trans x4, (mup_n _ _ (by omega)).trans x5, (mup_n _ _ (by omega)).trans x6, (mup_n _ _ (by omega)).trans x7, (mup_n _ _ (by omega)).trans x8, (mup_n _ _ (by omega)).trans x9, (mup_n _ _ (by omega)).trans x10, (mup_n _ _ (by omega)).trans x11, (mup_n _ _ (by omega)).trans x12, (mup_n _ _ (by omega)).trans x13, (mup_n _ _ (by omega)).trans x14, (mup_n _ _ (by omega)).trans x15, x16.m _ (by omega) (by omega)⟩
theorem Md.prval {h0 h : MH} {m : Nat} {M : MS} (x : Md h0 m M h) (v : Int32) : Md h0 m (srval M v) (mup h m (mdO m (srval M v))) := by
  obtain ⟨x0, x1, x2, x3, x4, x5, x6, x7, x8, x9, x10, x11, x12, x13, x14, x15, x16⟩ := x
  exact ⟨mup_s _ _ _, (mup_n _ _ (by omega)).trans x1, (mup_n _ _ (by omega)).trans x2, (mup_n _ _ (by omega)).trans x3, (mup_n _ _ (by omega)).trans x4, (mup_n _ _ (by omega)).trans x5, (mup_n _ _ (by omega)).trans x6, (mup_n _ _ (by omega)).trans x7, (mup_n _ _ (by omega)).trans x8, (mup_n _ _ (by omega)).trans x9, (mup_n _ _ (by omega)).trans x10, (mup_n _ _ (by omega)).trans x11, (mup_n _ _ (by omega)).trans x12, (mup_n _ _ (by omega)).trans x13, (mup_n _ _ (by omega)).trans x14, (mup_n _ _ (by omega)).trans x15, x16.m _ (by omega) (by omega)⟩
theorem Md.pbl {h0 h : MH} {m : Nat} {M : MS} (x : Md h0 m M h) (v : Int32) : Md h0 m (sbl M v) (mup h m (mdO m (sbl M v))) := by
  obtain ⟨x0, x1, x2, x3, x4, x5, x6, x7, x8, x9, x10, x11, x12, x13, x14, x15, x16⟩ := x
  exact ⟨mup_s _ _ _, (mup_n _ _ (by omega)).trans x1, (mup_n _ _ (by omega)).trans x2, (mup_n _ _ (by omega)).trans x3, (mup_n _ _ (by omega)).trans x4, (mup_n _ _ (by omega)).trans x5, (mup_n _ _ (by omega)).trans x6, (mup_n _ _ (by omega)).trans x7, (mup_n _ _ (by omega)).trans x8, (mup_n _ _ (by omega)).trans x9, (mup_n _ _ (by omega)).trans x10, (mup_n _ _ (by omega)).trans x11, (mup_n _ _ (by omega)).trans x12, (mup_n _ _ (by omega)).trans x13, (mup_n _ _ (by omega)).trans x14, (mup_n _ _ (by omega)).trans x15, x16.m _ (by omega) (by omega)⟩
theorem Md.pbp {h0 h : MH} {m : Nat} {M : MS} (x : Md h0 m M h) (v : Int32) : Md h0 m (sbp M v) (mup h m (mdO m (sbp M v))) := by
  obtain ⟨x0, x1, x2, x3, x4, x5, x6, x7, x8, x9, x10, x11, x12, x13, x14, x15, x16⟩ := x
  exact ⟨mup_s _ _ _, (mup_n _ _ (by omega)).trans x1, (mup_n _ _ (by omega)).trans x2, (mup_n _ _ (by omega)).trans x3, (mup_n _ _ (by omega)).trans x4, (mup_n _ _ (by omega)).trans x5, (mup_n _ _ (by omega)).trans x6, (mup_n _ _ (by omega)).trans x7, (mup_n _ _ (by omega)).trans x8, (mup_n _ _ (by omega)).trans x9, (mup_n _ _ (by omega)).trans x10, (mup_n _ _ (by omega)).trans x11, (mup_n _ _ (by omega)).trans x12, (mup_n _ _ (by omega)).trans x13, (mup_n _ _ (by omega)).trans x14, (mup_n _ _ (by omega)).trans x15, x16.m _ (by omega) (by omega)⟩
theorem Md.pbdr {h0 h : MH} {m : Nat} {M : MS} (x : Md h0 m M h) (v : Int32) : Md h0 m (sbdr M v) (mup h m (mdO m (sbdr M v))) := by
  obtain ⟨x0, x1, x2, x3, x4, x5, x6, x7, x8, x9, x10, x11, x12, x13, x14, x15, x16⟩ := x
  exact ⟨mup_s _ _ _, (mup_n _ _ (by omega)).trans x1, (mup_n _ _ (by omega)).trans x2, (mup_n _ _ (by omega)).trans x3, (mup_n _ _ (by omega)).trans x4, (mup_n _ _ (by omega)).trans x5, (mup_n _ _ (by omega)).trans x6, (mup_n _ _ (by omega)).trans x7, (mup_n _ _ (by omega)).trans x8, (mup_n _ _ (by omega)).trans x9, (mup_n _ _ (by omega)).trans x10, (mup_n _ _ (by omega)).trans x11, (mup_n _ _ (by omega)).trans x12, (mup_n _ _ (by omega)).trans x13, (mup_n _ _ (by omega)).trans x14, (mup_n _ _ (by omega)).trans x15, x16.m _ (by omega) (by omega)⟩
theorem Md.pws {h0 h : MH} {m : Nat} {M : MS} (x : Md h0 m M h) (v : Int32) : Md h0 m (sws M v) (mup h m (mdO m (sws M v))) := by
  obtain ⟨x0, x1, x2, x3, x4, x5, x6, x7, x8, x9, x10, x11, x12, x13, x14, x15, x16⟩ := x
  exact ⟨mup_s _ _ _, (mup_n _ _ (by omega)).trans x1, (mup_n _ _ (by omega)).trans x2, (mup_n _ _ (by omega)).trans x3, (mup_n _ _ (by omega)).trans x4, (mup_n _ _ (by omega)).trans x5, (mup_n _ _ (by omega)).trans x6, (mup_n _ _ (by omega)).trans x7, (mup_n _ _ (by omega)).trans x8, (mup_n _ _ (by omega)).trans x9, (mup_n _ _ (by omega)).trans x10, (mup_n _ _ (by omega)).trans x11, (mup_n _ _ (by omega)).trans x12, (mup_n _ _ (by omega)).trans x13, (mup_n _ _ (by omega)).trans x14, (mup_n _ _ (by omega)).trans x15, x16.m _ (by omega) (by omega)⟩
theorem Md.ptl {h0 h : MH} {m : Nat} {M : MS} (x : Md h0 m M h) (v : Int32) : Md h0 m (stl M v) (mup h m (mdO m (stl M v))) := by
  obtain ⟨x0, x1, x2, x3, x4, x5, x6, x7, x8, x9, x10, x11, x12, x13, x14, x15, x16⟩ := x
  exact ⟨mup_s _ _ _, (mup_n _ _ (by omega)).trans x1, (mup_n _ _ (by omega)).trans x2, (mup_n _ _ (by omega)).trans x3, (mup_n _ _ (by omega)).trans x4, (mup_n _ _ (by omega)).trans x5, (mup_n _ _ (by omega)).trans x6, (mup_n _ _ (by omega)).trans x7, (mup_n _ _ (by omega)).trans x8, (mup_n _ _ (by omega)).trans x9, (mup_n _ _ (by omega)).trans x10, (mup_n _ _ (by omega)).trans x11, (mup_n _ _ (by omega)).trans x12, (mup_n _ _ (by omega)).trans x13, (mup_n _ _ (by omega)).trans x14, (mup_n _ _ (by omega)).trans x15, x16.m _ (by omega) (by omega)⟩
theorem Md.ppos {h0 h : MH} {m : Nat} {M : MS} (x : Md h0 m M h) (v : Int32) : Md h0 m (spos M v) (mup h m (mdO m (spos M v))) := by
  obtain ⟨x0, x1, x2, x3, x4, x5, x6, x7, x8, x9, x10, x11, x12, x13, x14, x15, x16⟩ := x
  exact ⟨mup_s _ _ _, (mup_n _ _ (by omega)).trans x1, (mup_n _ _ (by omega)).trans x2, (mup_n _ _ (by omega)).trans x3, (mup_n _ _ (by omega)).trans x4, (mup_n _ _ (by omega)).trans x5, (mup_n _ _ (by omega)).trans x6, (mup_n _ _ (by omega)).trans x7, (mup_n _ _ (by omega)).trans x8, (mup_n _ _ (by omega)).trans x9, (mup_n _ _ (by omega)).trans x10, (mup_n _ _ (by omega)).trans x11, (mup_n _ _ (by omega)).trans x12, (mup_n _ _ (by omega)).trans x13, (mup_n _ _ (by omega)).trans x14, (mup_n _ _ (by omega)).trans x15, x16.m _ (by omega) (by omega)⟩
theorem Md.ptst {h0 h : MH} {m : Nat} {M : MS} (x : Md h0 m M h) (v : Int32) : Md h0 m (stst M v) (mup h m (mdO m (stst M v))) := by
  obtain ⟨x0, x1, x2, x3, x4, x5, x6, x7, x8, x9, x10, x11, x12, x13, x14, x15, x16⟩ := x
  exact ⟨mup_s _ _ _, (mup_n _ _ (by omega)).trans x1, (mup_n _ _ (by omega)).trans x2, (mup_n _ _ (by omega)).trans x3, (mup_n _ _ (by omega)).trans x4, (mup_n _ _ (by omega)).trans x5, (mup_n _ _ (by omega)).trans x6, (mup_n _ _ (by omega)).trans x7, (mup_n _ _ (by omega)).trans x8, (mup_n _ _ (by omega)).trans x9, (mup_n _ _ (by omega)).trans x10, (mup_n _ _ (by omega)).trans x11, (mup_n _ _ (by omega)).trans x12, (mup_n _ _ (by omega)).trans x13, (mup_n _ _ (by omega)).trans x14, (mup_n _ _ (by omega)).trans x15, x16.m _ (by omega) (by omega)⟩
theorem Md.ptok {h0 h : MH} {m : Nat} {M : MS} (x : Md h0 m M h) (v : Int32) : Md h0 m (stok M v) (mup h m (mdO m (stok M v))) := by
  obtain ⟨x0, x1, x2, x3, x4, x5, x6, x7, x8, x9, x10, x11, x12, x13, x14, x15, x16⟩ := x
  exact ⟨mup_s _ _ _, (mup_n _ _ (by omega)).trans x1, (mup_n _ _ (by omega)).trans x2, (mup_n _ _ (by omega)).trans x3, (mup_n _ _ (by omega)).trans x4, (mup_n _ _ (by omega)).trans x5, (mup_n _ _ (by omega)).trans x6, (mup_n _ _ (by omega)).trans x7, (mup_n _ _ (by omega)).trans x8, (mup_n _ _ (by omega)).trans x9, (mup_n _ _ (by omega)).trans x10, (mup_n _ _ (by omega)).trans x11, (mup_n _ _ (by omega)).trans x12, (mup_n _ _ (by omega)).trans x13, (mup_n _ _ (by omega)).trans x14, (mup_n _ _ (by omega)).trans x15, x16.m _ (by omega) (by omega)⟩
theorem Md.plet {h0 h : MH} {m : Nat} {M : MS} (x : Md h0 m M h) (v : Int32) : Md h0 m (slet M v) (mup h m (mdO m (slet M v))) := by
  obtain ⟨x0, x1, x2, x3, x4, x5, x6, x7, x8, x9, x10, x11, x12, x13, x14, x15, x16⟩ := x
  exact ⟨mup_s _ _ _, (mup_n _ _ (by omega)).trans x1, (mup_n _ _ (by omega)).trans x2, (mup_n _ _ (by omega)).trans x3, (mup_n _ _ (by omega)).trans x4, (mup_n _ _ (by omega)).trans x5, (mup_n _ _ (by omega)).trans x6, (mup_n _ _ (by omega)).trans x7, (mup_n _ _ (by omega)).trans x8, (mup_n _ _ (by omega)).trans x9, (mup_n _ _ (by omega)).trans x10, (mup_n _ _ (by omega)).trans x11, (mup_n _ _ (by omega)).trans x12, (mup_n _ _ (by omega)).trans x13, (mup_n _ _ (by omega)).trans x14, (mup_n _ _ (by omega)).trans x15, x16.m _ (by omega) (by omega)⟩
theorem Md.pnum {h0 h : MH} {m : Nat} {M : MS} (x : Md h0 m M h) (v : Int32) : Md h0 m (snum M v) (mup h m (mdO m (snum M v))) := by
  obtain ⟨x0, x1, x2, x3, x4, x5, x6, x7, x8, x9, x10, x11, x12, x13, x14, x15, x16⟩ := x
  exact ⟨mup_s _ _ _, (mup_n _ _ (by omega)).trans x1, (mup_n _ _ (by omega)).trans x2, (mup_n _ _ (by omega)).trans x3, (mup_n _ _ (by omega)).trans x4, (mup_n _ _ (by omega)).trans x5, (mup_n _ _ (by omega)).trans x6, (mup_n _ _ (by omega)).trans x7, (mup_n _ _ (by omega)).trans x8, (mup_n _ _ (by omega)).trans x9, (mup_n _ _ (by omega)).trans x10, (mup_n _ _ (by omega)).trans x11, (mup_n _ _ (by omega)).trans x12, (mup_n _ _ (by omega)).trans x13, (mup_n _ _ (by omega)).trans x14, (mup_n _ _ (by omega)).trans x15, x16.m _ (by omega) (by omega)⟩
theorem Md.pec {h0 h : MH} {m : Nat} {M : MS} (x : Md h0 m M h) (v : Int32) : Md h0 m (sec M v) (mup h m (mdO m (sec M v))) := by
  obtain ⟨x0, x1, x2, x3, x4, x5, x6, x7, x8, x9, x10, x11, x12, x13, x14, x15, x16⟩ := x
  exact ⟨mup_s _ _ _, (mup_n _ _ (by omega)).trans x1, (mup_n _ _ (by omega)).trans x2, (mup_n _ _ (by omega)).trans x3, (mup_n _ _ (by omega)).trans x4, (mup_n _ _ (by omega)).trans x5, (mup_n _ _ (by omega)).trans x6, (mup_n _ _ (by omega)).trans x7, (mup_n _ _ (by omega)).trans x8, (mup_n _ _ (by omega)).trans x9, (mup_n _ _ (by omega)).trans x10, (mup_n _ _ (by omega)).trans x11, (mup_n _ _ (by omega)).trans x12, (mup_n _ _ (by omega)).trans x13, (mup_n _ _ (by omega)).trans x14, (mup_n _ _ (by omega)).trans x15, x16.m _ (by omega) (by omega)⟩
theorem Md.pep {h0 h : MH} {m : Nat} {M : MS} (x : Md h0 m M h) (v : Int32) : Md h0 m (sep M v) (mup h m (mdO m (sep M v))) := by
  obtain ⟨x0, x1, x2, x3, x4, x5, x6, x7, x8, x9, x10, x11, x12, x13, x14, x15, x16⟩ := x
  exact ⟨mup_s _ _ _, (mup_n _ _ (by omega)).trans x1, (mup_n _ _ (by omega)).trans x2, (mup_n _ _ (by omega)).trans x3, (mup_n _ _ (by omega)).trans x4, (mup_n _ _ (by omega)).trans x5, (mup_n _ _ (by omega)).trans x6, (mup_n _ _ (by omega)).trans x7, (mup_n _ _ (by omega)).trans x8, (mup_n _ _ (by omega)).trans x9, (mup_n _ _ (by omega)).trans x10, (mup_n _ _ (by omega)).trans x11, (mup_n _ _ (by omega)).trans x12, (mup_n _ _ (by omega)).trans x13, (mup_n _ _ (by omega)).trans x14, (mup_n _ _ (by omega)).trans x15, x16.m _ (by omega) (by omega)⟩
theorem Md.pwrd {h0 h : MH} {m : Nat} {M : MS} (x : Md h0 m M h) (v : Int64) : Md h0 m (swrd M v) (mup h m (mdO m (swrd M v))) := by
  obtain ⟨x0, x1, x2, x3, x4, x5, x6, x7, x8, x9, x10, x11, x12, x13, x14, x15, x16⟩ := x
  exact ⟨mup_s _ _ _, (mup_n _ _ (by omega)).trans x1, (mup_n _ _ (by omega)).trans x2, (mup_n _ _ (by omega)).trans x3, (mup_n _ _ (by omega)).trans x4, (mup_n _ _ (by omega)).trans x5, (mup_n _ _ (by omega)).trans x6, (mup_n _ _ (by omega)).trans x7, (mup_n _ _ (by omega)).trans x8, (mup_n _ _ (by omega)).trans x9, (mup_n _ _ (by omega)).trans x10, (mup_n _ _ (by omega)).trans x11, (mup_n _ _ (by omega)).trans x12, (mup_n _ _ (by omega)).trans x13, (mup_n _ _ (by omega)).trans x14, (mup_n _ _ (by omega)).trans x15, x16.m _ (by omega) (by omega)⟩
theorem Md.pbrd {h0 h : MH} {m : Nat} {M : MS} (x : Md h0 m M h) (v : Nat → Int32) : Md h0 m (sbrd M v) (mup h (m + 1) (cI 568 v)) := by
  obtain ⟨x0, x1, x2, x3, x4, x5, x6, x7, x8, x9, x10, x11, x12, x13, x14, x15, x16⟩ := x
  exact ⟨(mup_n _ _ (by omega)).trans x0, mup_s _ _ _, (mup_n _ _ (by omega)).trans x2, (mup_n _ _ (by omega)).trans x3, (mup_n _ _ (by omega)).trans x4, (mup_n _ _ (by omega)).trans x5, (mup_n _ _ (by omega)).trans x6, (mup_n _ _ (by omega)).trans x7, (mup_n _ _ (by omega)).trans x8, (mup_n _ _ (by omega)).trans x9, (mup_n _ _ (by omega)).trans x10, (mup_n _ _ (by omega)).trans x11, (mup_n _ _ (by omega)).trans x12, (mup_n _ _ (by omega)).trans x13, (mup_n _ _ (by omega)).trans x14, (mup_n _ _ (by omega)).trans x15, x16.m _ (by omega) (by omega)⟩
theorem Md.pbak {h0 h : MH} {m : Nat} {M : MS} (x : Md h0 m M h) (v : Nat → Int32) : Md h0 m (sbak M v) (mup h (m + 2) (cI 568 v)) := by
  obtain ⟨x0, x1, x2, x3, x4, x5, x6, x7, x8, x9, x10, x11, x12, x13, x14, x15, x16⟩ := x
  exact ⟨(mup_n _ _ (by omega)).trans x0, (mup_n _ _ (by omega)).trans x1, mup_s _ _ _, (mup_n _ _ (by omega)).trans x3, (mup_n _ _ (by omega)).trans x4, (mup_n _ _ (by omega)).trans x5, (mup_n _ _ (by omega)).trans x6, (mup_n _ _ (by omega)).trans x7, (mup_n _ _ (by omega)).trans x8, (mup_n _ _ (by omega)).trans x9, (mup_n _ _ (by omega)).trans x10, (mup_n _ _ (by omega)).trans x11, (mup_n _ _ (by omega)).trans x12, (mup_n _ _ (by omega)).trans x13, (mup_n _ _ (by omega)).trans x14, (mup_n _ _ (by omega)).trans x15, x16.m _ (by omega) (by omega)⟩
theorem Md.psav {h0 h : MH} {m : Nat} {M : MS} (x : Md h0 m M h) (v : Nat → Int32) : Md h0 m (ssav M v) (mup h (m + 3) (cI 1136 v)) := by
  obtain ⟨x0, x1, x2, x3, x4, x5, x6, x7, x8, x9, x10, x11, x12, x13, x14, x15, x16⟩ := x
  exact ⟨(mup_n _ _ (by omega)).trans x0, (mup_n _ _ (by omega)).trans x1, (mup_n _ _ (by omega)).trans x2, mup_s _ _ _, (mup_n _ _ (by omega)).trans x4, (mup_n _ _ (by omega)).trans x5, (mup_n _ _ (by omega)).trans x6, (mup_n _ _ (by omega)).trans x7, (mup_n _ _ (by omega)).trans x8, (mup_n _ _ (by omega)).trans x9, (mup_n _ _ (by omega)).trans x10, (mup_n _ _ (by omega)).trans x11, (mup_n _ _ (by omega)).trans x12, (mup_n _ _ (by omega)).trans x13, (mup_n _ _ (by omega)).trans x14, (mup_n _ _ (by omega)).trans x15, x16.m _ (by omega) (by omega)⟩
theorem Md.prow {h0 h : MH} {m : Nat} {M : MS} (x : Md h0 m M h) (v : Nat → Int32) : Md h0 m (srow M v) (mup h (m + 8) (cI 44 v)) := by
  obtain ⟨x0, x1, x2, x3, x4, x5, x6, x7, x8, x9, x10, x11, x12, x13, x14, x15, x16⟩ := x
  exact ⟨(mup_n _ _ (by omega)).trans x0, (mup_n _ _ (by omega)).trans x1, (mup_n _ _ (by omega)).trans x2, (mup_n _ _ (by omega)).trans x3, mup_s _ _ _, (mup_n _ _ (by omega)).trans x5, (mup_n _ _ (by omega)).trans x6, (mup_n _ _ (by omega)).trans x7, (mup_n _ _ (by omega)).trans x8, (mup_n _ _ (by omega)).trans x9, (mup_n _ _ (by omega)).trans x10, (mup_n _ _ (by omega)).trans x11, (mup_n _ _ (by omega)).trans x12, (mup_n _ _ (by omega)).trans x13, (mup_n _ _ (by omega)).trans x14, (mup_n _ _ (by omega)).trans x15, x16.m _ (by omega) (by omega)⟩
theorem Md.parr {h0 h : MH} {m : Nat} {M : MS} (x : Md h0 m M h) (v : Nat → Int32) : Md h0 m (sarr M v) (mup h (m + 9) (cI 46 v)) := by
  obtain ⟨x0, x1, x2, x3, x4, x5, x6, x7, x8, x9, x10, x11, x12, x13, x14, x15, x16⟩ := x
  exact ⟨(mup_n _ _ (by omega)).trans x0, (mup_n _ _ (by omega)).trans x1, (mup_n _ _ (by omega)).trans x2, (mup_n _ _ (by omega)).trans x3, (mup_n _ _ (by omega)).trans x4, mup_s _ _ _, (mup_n _ _ (by omega)).trans x6, (mup_n _ _ (by omega)).trans x7, (mup_n _ _ (by omega)).trans x8, (mup_n _ _ (by omega)).trans x9, (mup_n _ _ (by omega)).trans x10, (mup_n _ _ (by omega)).trans x11, (mup_n _ _ (by omega)).trans x12, (mup_n _ _ (by omega)).trans x13, (mup_n _ _ (by omega)).trans x14, (mup_n _ _ (by omega)).trans x15, x16.m _ (by omega) (by omega)⟩
theorem Md.psol {h0 h : MH} {m : Nat} {M : MS} (x : Md h0 m M h) (v : Nat → Int32) : Md h0 m (ssol M v) (mup h (m + 10) (cI 160 v)) := by
  obtain ⟨x0, x1, x2, x3, x4, x5, x6, x7, x8, x9, x10, x11, x12, x13, x14, x15, x16⟩ := x
  exact ⟨(mup_n _ _ (by omega)).trans x0, (mup_n _ _ (by omega)).trans x1, (mup_n _ _ (by omega)).trans x2, (mup_n _ _ (by omega)).trans x3, (mup_n _ _ (by omega)).trans x4, (mup_n _ _ (by omega)).trans x5, mup_s _ _ _, (mup_n _ _ (by omega)).trans x7, (mup_n _ _ (by omega)).trans x8, (mup_n _ _ (by omega)).trans x9, (mup_n _ _ (by omega)).trans x10, (mup_n _ _ (by omega)).trans x11, (mup_n _ _ (by omega)).trans x12, (mup_n _ _ (by omega)).trans x13, (mup_n _ _ (by omega)).trans x14, (mup_n _ _ (by omega)).trans x15, x16.m _ (by omega) (by omega)⟩
theorem Md.phol {h0 h : MH} {m : Nat} {M : MS} (x : Md h0 m M h) (v : Nat → Int32) : Md h0 m (shol M v) (mup h (m + 11) (cI 20 v)) := by
  obtain ⟨x0, x1, x2, x3, x4, x5, x6, x7, x8, x9, x10, x11, x12, x13, x14, x15, x16⟩ := x
  exact ⟨(mup_n _ _ (by omega)).trans x0, (mup_n _ _ (by omega)).trans x1, (mup_n _ _ (by omega)).trans x2, (mup_n _ _ (by omega)).trans x3, (mup_n _ _ (by omega)).trans x4, (mup_n _ _ (by omega)).trans x5, (mup_n _ _ (by omega)).trans x6, mup_s _ _ _, (mup_n _ _ (by omega)).trans x8, (mup_n _ _ (by omega)).trans x9, (mup_n _ _ (by omega)).trans x10, (mup_n _ _ (by omega)).trans x11, (mup_n _ _ (by omega)).trans x12, (mup_n _ _ (by omega)).trans x13, (mup_n _ _ (by omega)).trans x14, (mup_n _ _ (by omega)).trans x15, x16.m _ (by omega) (by omega)⟩
theorem Md.pask {h0 h : MH} {m : Nat} {M : MS} (x : Md h0 m M h) (v : Nat → Int32) : Md h0 m (sask M v) (mup h (m + 12) (cI 20 v)) := by
  obtain ⟨x0, x1, x2, x3, x4, x5, x6, x7, x8, x9, x10, x11, x12, x13, x14, x15, x16⟩ := x
  exact ⟨(mup_n _ _ (by omega)).trans x0, (mup_n _ _ (by omega)).trans x1, (mup_n _ _ (by omega)).trans x2, (mup_n _ _ (by omega)).trans x3, (mup_n _ _ (by omega)).trans x4, (mup_n _ _ (by omega)).trans x5, (mup_n _ _ (by omega)).trans x6, (mup_n _ _ (by omega)).trans x7, mup_s _ _ _, (mup_n _ _ (by omega)).trans x9, (mup_n _ _ (by omega)).trans x10, (mup_n _ _ (by omega)).trans x11, (mup_n _ _ (by omega)).trans x12, (mup_n _ _ (by omega)).trans x13, (mup_n _ _ (by omega)).trans x14, (mup_n _ _ (by omega)).trans x15, x16.m _ (by omega) (by omega)⟩
theorem Md.pwei {h0 h : MH} {m : Nat} {M : MS} (x : Md h0 m M h) (v : Nat → Int32) : Md h0 m (swei M v) (mup h (m + 13) (cI 20 v)) := by
  obtain ⟨x0, x1, x2, x3, x4, x5, x6, x7, x8, x9, x10, x11, x12, x13, x14, x15, x16⟩ := x
  exact ⟨(mup_n _ _ (by omega)).trans x0, (mup_n _ _ (by omega)).trans x1, (mup_n _ _ (by omega)).trans x2, (mup_n _ _ (by omega)).trans x3, (mup_n _ _ (by omega)).trans x4, (mup_n _ _ (by omega)).trans x5, (mup_n _ _ (by omega)).trans x6, (mup_n _ _ (by omega)).trans x7, (mup_n _ _ (by omega)).trans x8, mup_s _ _ _, (mup_n _ _ (by omega)).trans x10, (mup_n _ _ (by omega)).trans x11, (mup_n _ _ (by omega)).trans x12, (mup_n _ _ (by omega)).trans x13, (mup_n _ _ (by omega)).trans x14, (mup_n _ _ (by omega)).trans x15, x16.m _ (by omega) (by omega)⟩
theorem Md.ptxt {h0 h : MH} {m : Nat} {M : MS} (x : Md h0 m M h) (v : Nat → Int32) : Md h0 m (stxt M v) (mup h (m + 14) (cI 600 v)) := by
  obtain ⟨x0, x1, x2, x3, x4, x5, x6, x7, x8, x9, x10, x11, x12, x13, x14, x15, x16⟩ := x
  exact ⟨(mup_n _ _ (by omega)).trans x0, (mup_n _ _ (by omega)).trans x1, (mup_n _ _ (by omega)).trans x2, (mup_n _ _ (by omega)).trans x3, (mup_n _ _ (by omega)).trans x4, (mup_n _ _ (by omega)).trans x5, (mup_n _ _ (by omega)).trans x6, (mup_n _ _ (by omega)).trans x7, (mup_n _ _ (by omega)).trans x8, (mup_n _ _ (by omega)).trans x9, mup_s _ _ _, (mup_n _ _ (by omega)).trans x11, (mup_n _ _ (by omega)).trans x12, (mup_n _ _ (by omega)).trans x13, (mup_n _ _ (by omega)).trans x14, (mup_n _ _ (by omega)).trans x15, x16.m _ (by omega) (by omega)⟩
theorem Md.pplc {h0 h : MH} {m : Nat} {M : MS} (x : Md h0 m M h) (v : Nat → Int32) : Md h0 m (splc M v) (mup h (m + 15) (cI 4 v)) := by
  obtain ⟨x0, x1, x2, x3, x4, x5, x6, x7, x8, x9, x10, x11, x12, x13, x14, x15, x16⟩ := x
  exact ⟨(mup_n _ _ (by omega)).trans x0, (mup_n _ _ (by omega)).trans x1, (mup_n _ _ (by omega)).trans x2, (mup_n _ _ (by omega)).trans x3, (mup_n _ _ (by omega)).trans x4, (mup_n _ _ (by omega)).trans x5, (mup_n _ _ (by omega)).trans x6, (mup_n _ _ (by omega)).trans x7, (mup_n _ _ (by omega)).trans x8, (mup_n _ _ (by omega)).trans x9, (mup_n _ _ (by omega)).trans x10, mup_s _ _ _, (mup_n _ _ (by omega)).trans x12, (mup_n _ _ (by omega)).trans x13, (mup_n _ _ (by omega)).trans x14, (mup_n _ _ (by omega)).trans x15, x16.m _ (by omega) (by omega)⟩
theorem Md.pcrd {h0 h : MH} {m : Nat} {M : MS} (x : Md h0 m M h) (v : Nat → Int64) : Md h0 m (scrd M v) (mup h (m + 4) (cJ 28 v)) := by
  obtain ⟨x0, x1, x2, x3, x4, x5, x6, x7, x8, x9, x10, x11, x12, x13, x14, x15, x16⟩ := x
  exact ⟨(mup_n _ _ (by omega)).trans x0, (mup_n _ _ (by omega)).trans x1, (mup_n _ _ (by omega)).trans x2, (mup_n _ _ (by omega)).trans x3, (mup_n _ _ (by omega)).trans x4, (mup_n _ _ (by omega)).trans x5, (mup_n _ _ (by omega)).trans x6, (mup_n _ _ (by omega)).trans x7, (mup_n _ _ (by omega)).trans x8, (mup_n _ _ (by omega)).trans x9, (mup_n _ _ (by omega)).trans x10, (mup_n _ _ (by omega)).trans x11, mup_s _ _ _, (mup_n _ _ (by omega)).trans x13, (mup_n _ _ (by omega)).trans x14, (mup_n _ _ (by omega)).trans x15, x16.m _ (by omega) (by omega)⟩
theorem Md.pcbk {h0 h : MH} {m : Nat} {M : MS} (x : Md h0 m M h) (v : Nat → Int64) : Md h0 m (scbk M v) (mup h (m + 5) (cJ 28 v)) := by
  obtain ⟨x0, x1, x2, x3, x4, x5, x6, x7, x8, x9, x10, x11, x12, x13, x14, x15, x16⟩ := x
  exact ⟨(mup_n _ _ (by omega)).trans x0, (mup_n _ _ (by omega)).trans x1, (mup_n _ _ (by omega)).trans x2, (mup_n _ _ (by omega)).trans x3, (mup_n _ _ (by omega)).trans x4, (mup_n _ _ (by omega)).trans x5, (mup_n _ _ (by omega)).trans x6, (mup_n _ _ (by omega)).trans x7, (mup_n _ _ (by omega)).trans x8, (mup_n _ _ (by omega)).trans x9, (mup_n _ _ (by omega)).trans x10, (mup_n _ _ (by omega)).trans x11, (mup_n _ _ (by omega)).trans x12, mup_s _ _ _, (mup_n _ _ (by omega)).trans x14, (mup_n _ _ (by omega)).trans x15, x16.m _ (by omega) (by omega)⟩
theorem Md.pcsv {h0 h : MH} {m : Nat} {M : MS} (x : Md h0 m M h) (v : Nat → Int64) : Md h0 m (scsv M v) (mup h (m + 6) (cJ 56 v)) := by
  obtain ⟨x0, x1, x2, x3, x4, x5, x6, x7, x8, x9, x10, x11, x12, x13, x14, x15, x16⟩ := x
  exact ⟨(mup_n _ _ (by omega)).trans x0, (mup_n _ _ (by omega)).trans x1, (mup_n _ _ (by omega)).trans x2, (mup_n _ _ (by omega)).trans x3, (mup_n _ _ (by omega)).trans x4, (mup_n _ _ (by omega)).trans x5, (mup_n _ _ (by omega)).trans x6, (mup_n _ _ (by omega)).trans x7, (mup_n _ _ (by omega)).trans x8, (mup_n _ _ (by omega)).trans x9, (mup_n _ _ (by omega)).trans x10, (mup_n _ _ (by omega)).trans x11, (mup_n _ _ (by omega)).trans x12, (mup_n _ _ (by omega)).trans x13, mup_s _ _ _, (mup_n _ _ (by omega)).trans x15, x16.m _ (by omega) (by omega)⟩
theorem Md.piss {h0 h : MH} {m : Nat} {M : MS} (x : Md h0 m M h) (v : Nat → Int32) : Md h0 m (siss M v) (mup h (m + 7) (cZ 2 v)) := by
  obtain ⟨x0, x1, x2, x3, x4, x5, x6, x7, x8, x9, x10, x11, x12, x13, x14, x15, x16⟩ := x
  exact ⟨(mup_n _ _ (by omega)).trans x0, (mup_n _ _ (by omega)).trans x1, (mup_n _ _ (by omega)).trans x2, (mup_n _ _ (by omega)).trans x3, (mup_n _ _ (by omega)).trans x4, (mup_n _ _ (by omega)).trans x5, (mup_n _ _ (by omega)).trans x6, (mup_n _ _ (by omega)).trans x7, (mup_n _ _ (by omega)).trans x8, (mup_n _ _ (by omega)).trans x9, (mup_n _ _ (by omega)).trans x10, (mup_n _ _ (by omega)).trans x11, (mup_n _ _ (by omega)).trans x12, (mup_n _ _ (by omega)).trans x13, (mup_n _ _ (by omega)).trans x14, mup_s _ _ _, x16.m _ (by omega) (by omega)⟩
theorem vf_ss {α : Type} (f : Nat → α) (k : Nat) (u v : α) : vf_upd (vf_upd f k u) k v = vf_upd f k v := by
  funext j; unfold vf_upd; split <;> rfl
theorem vf_cc {α : Type} (f : Nat → α) {k l : Nat} (u v : α) (e : k ≠ l) : vf_upd (vf_upd f k u) l v = vf_upd (vf_upd f l v) k u := by
  funext j; unfold vf_upd
  by_cases h : j = l
  · rw [if_pos h, if_neg (by omega), if_pos h]
  · rw [if_neg h]
    by_cases h2 : j = k
    · rw [if_pos h2, if_pos h2]
    · rw [if_neg h2, if_neg h2, if_neg h]
