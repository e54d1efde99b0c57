-- THE REFERENCE: one object at m with its arrays behind it
abbrev MS : Type := (Int32) × (Int32) × (Int32) × (Int32) × (Int32) × (Int32) × (Int32) × (Int32) × (Int32) × (Int32) × (Int32) × (Int32) × (Int32) × (Int32) × (Int32) × (Int32) × (Int64) × (Nat → Int32) × (Nat → Int32) × (Nat → Int32) × (Nat → Int32) × (Nat → Int32) × (Nat → Int32) × (Nat → Int32) × (Nat → Int32) × (Nat → Int32) × (Nat → Int32) × (Nat → Int32) × (Nat → Int64) × (Nat → Int64) × (Nat → Int64) × (Nat → Int32)
def gthr (M : MS) : Int32 := M.1
def grcnt (M : MS) : Int32 := M.2.1
def grlen (M : MS) : Int32 := M.2.2.1
def grval (M : MS) : Int32 := M.2.2.2.1
def gbl (M : MS) : Int32 := M.2.2.2.2.1
def gbp (M : MS) : Int32 := M.2.2.2.2.2.1
def gbdr (M : MS) : Int32 := M.2.2.2.2.2.2.1
def gws (M : MS) : Int32 := M.2.2.2.2.2.2.2.1
def gtl (M : MS) : Int32 := M.2.2.2.2.2.2.2.2.1
def gpos (M : MS) : Int32 := M.2.2.2.2.2.2.2.2.2.1
def gtst (M : MS) : Int32 := M.2.2.2.2.2.2.2.2.2.2.1
def gtok (M : MS) : Int32 := M.2.2.2.2.2.2.2.2.2.2.2.1
def glet (M : MS) : Int32 := M.2.2.2.2.2.2.2.2.2.2.2.2.1
def gnum (M : MS) : Int32 := M.2.2.2.2.2.2.2.2.2.2.2.2.2.1
def gec (M : MS) : Int32 := M.2.2.2.2.2.2.2.2.2.2.2.2.2.2.1
def gep (M : MS) : Int32 := M.2.2.2.2.2.2.2.2.2.2.2.2.2.2.2.1
def gwrd (M : MS) : Int64 := M.2.2.2.2.2.2.2.2.2.2.2.2.2.2.2.2.1
def gbrd (M : MS) : Nat → Int32 := M.2.2.2.2.2.2.2.2.2.2.2.2.2.2.2.2.2.1
def gbak (M : MS) : Nat → Int32 := M.2.2.2.2.2.2.2.2.2.2.2.2.2.2.2.2.2.2.1
def gsav (M : MS) : Nat → Int32 := M.2.2.2.2.2.2.2.2.2.2.2.2.2.2.2.2.2.2.2.1
def grow (M : MS) : Nat → Int32 := M.2.2.2.2.2.2.2.2.2.2.2.2.2.2.2.2.2.2.2.2.1
def garr (M : MS) : Nat → Int32 := M.2.2.2.2.2.2.2.2.2.2.2.2.2.2.2.2.2.2.2.2.2.1
def gsol (M : MS) : Nat → Int32 := M.2.2.2.2.2.2.2.2.2.2.2.2.2.2.2.2.2.2.2.2.2.2.1
def ghol (M : MS) : Nat → Int32 := M.2.2.2.2.2.2.2.2.2.2.2.2.2.2.2.2.2.2.2.2.2.2.2.1
def gask (M : MS) : Nat → Int32 := M.2.2.2.2.2.2.2.2.2.2.2.2.2.2.2.2.2.2.2.2.2.2.2.2.1
def gwei (M : MS) : Nat → Int32 := M.2.2.2.2.2.2.2.2.2.2.2.2.2.2.2.2.2.2.2.2.2.2.2.2.2.1
def gtxt (M : MS) : Nat → Int32 := M.2.2.2.2.2.2.2.2.2.2.2.2.2.2.2.2.2.2.2.2.2.2.2.2.2.2.1
def gplc (M : MS) : Nat → Int32 := M.2.2.2.2.2.2.2.2.2.2.2.2.2.2.2.2.2.2.2.2.2.2.2.2.2.2.2.1
def gcrd (M : MS) : Nat → Int64 := M.2.2.2.2.2.2.2.2.2.2.2.2.2.2.2.2.2.2.2.2.2.2.2.2.2.2.2.2.1
def gcbk (M : MS) : Nat → Int64 := M.2.2.2.2.2.2.2.2.2.2.2.2.2.2.2.2.2.2.2.2.2.2.2.2.2.2.2.2.2.1
def gcsv (M : MS) : Nat → Int64 := M.2.2.2.2.2.2.2.2.2.2.2.2.2.2.2.2.2.2.2.2.2.2.2.2.2.2.2.2.2.2.1
def giss (M : MS) : Nat → Int32 := M.2.2.2.2.2.2.2.2.2.2.2.2.2.2.2.2.2.2.2.2.2.2.2.2.2.2.2.2.2.2.2
def sthr (M : MS) (v : Int32) : MS := (v, grcnt M, grlen M, grval M, gbl M, gbp M, gbdr M, gws M, gtl M, gpos M, gtst M, gtok M, glet M, gnum M, gec M, gep M, gwrd M, gbrd M, gbak M, gsav M, grow M, garr M, gsol M, ghol M, gask M, gwei M, gtxt M, gplc M, gcrd M, gcbk M, gcsv M, giss M)
def srcnt (M : MS) (v : Int32) : MS := (gthr M, v, grlen M, grval M, gbl M, gbp M, gbdr M, gws M, gtl M, gpos M, gtst M, gtok M, glet M, gnum M, gec M, gep M, gwrd M, gbrd M, gbak M, gsav M, grow M, garr M, gsol M, ghol M, gask M, gwei M, gtxt M, gplc M, gcrd M, gcbk M, gcsv M, giss M)
def srlen (M : MS) (v : Int32) : MS := (gthr M, grcnt M, v, grval M, gbl M, gbp M, gbdr M, gws M, gtl M, gpos M, gtst M, gtok M, glet M, gnum M, gec M, gep M, gwrd M, gbrd M, gbak M, gsav M, grow M, garr M, gsol M, ghol M, gask M, gwei M, gtxt M, gplc M, gcrd M, gcbk M, gcsv M, giss M)
def srval (M : MS) (v : Int32) : MS := (gthr M, grcnt M, grlen M, v, gbl M, gbp M, gbdr M, gws M, gtl M, gpos M, gtst M, gtok M, glet M, gnum M, gec M, gep M, gwrd M, gbrd M, gbak M, gsav M, grow M, garr M, gsol M, ghol M, gask M, gwei M, gtxt M, gplc M, gcrd M, gcbk M, gcsv M, giss M)
def sbl (M : MS) (v : Int32) : MS := (gthr M, grcnt M, grlen M, grval M, v, gbp M, gbdr M, gws M, gtl M, gpos M, gtst M, gtok M, glet M, gnum M, gec M, gep M, gwrd M, gbrd M, gbak M, gsav M, grow M, garr M, gsol M, ghol M, gask M, gwei M, gtxt M, gplc M, gcrd M, gcbk M, gcsv M, giss M)
def sbp (M : MS) (v : Int32) : MS := (gthr M, grcnt M, grlen M, grval M, gbl M, v, gbdr M, gws M, gtl M, gpos M, gtst M, gtok M, glet M, gnum M, gec M, gep M, gwrd M, gbrd M, gbak M, gsav M, grow M, garr M, gsol M, ghol M, gask M, gwei M, gtxt M, gplc M, gcrd M, gcbk M, gcsv M, giss M)
def sbdr (M : MS) (v : Int32) : MS := (gthr M, grcnt M, grlen M, grval M, gbl M, gbp M, v, gws M, gtl M, gpos M, gtst M, gtok M, glet M, gnum M, gec M, gep M, gwrd M, gbrd M, gbak M, gsav M, grow M, garr M, gsol M, ghol M, gask M, gwei M, gtxt M, gplc M, gcrd M, gcbk M, gcsv M, giss M)
def sws (M : MS) (v : Int32) : MS := (gthr M, grcnt M, grlen M, grval M, gbl M, gbp M, gbdr M, v, gtl M, gpos M, gtst M, gtok M, glet M, gnum M, gec M, gep M, gwrd M, gbrd M, gbak M, gsav M, grow M, garr M, gsol M, ghol M, gask M, gwei M, gtxt M, gplc M, gcrd M, gcbk M, gcsv M, giss M)
def stl (M : MS) (v : Int32) : MS := (gthr M, grcnt M, grlen M, grval M, gbl M, gbp M, gbdr M, gws M, v, gpos M, gtst M, gtok M, glet M, gnum M, gec M, gep M, gwrd M, gbrd M, gbak M, gsav M, grow M, garr M, gsol M, ghol M, gask M, gwei M, gtxt M, gplc M, gcrd M, gcbk M, gcsv M, giss M)
def spos (M : MS) (v : Int32) : MS := (gthr M, grcnt M, grlen M, grval M, gbl M, gbp M, gbdr M, gws M, gtl M, v, gtst M, gtok M, glet M, gnum M, gec M, gep M, gwrd M, gbrd M, gbak M, gsav M, grow M, garr M, gsol M, ghol M, gask M, gwei M, gtxt M, gplc M, gcrd M, gcbk M, gcsv M, giss M)
def stst (M : MS) (v : Int32) : MS := (gthr M, grcnt M, grlen M, grval M, gbl M, gbp M, gbdr M, gws M, gtl M, gpos M, v, gtok M, glet M, gnum M, gec M, gep M, gwrd M, gbrd M, gbak M, gsav M, grow M, garr M, gsol M, ghol M, gask M, gwei M, gtxt M, gplc M, gcrd M, gcbk M, gcsv M, giss M)
def stok (M : MS) (v : Int32) : MS := (gthr M, grcnt M, grlen M, grval M, gbl M, gbp M, gbdr M, gws M, gtl M, gpos M, gtst M, v, glet M, gnum M, gec M, gep M, gwrd M, gbrd M, gbak M, gsav M, grow M, garr M, gsol M, ghol M, gask M, gwei M, gtxt M, gplc M, gcrd M, gcbk M, gcsv M, giss M)
def slet (M : MS) (v : Int32) : MS := (gthr M, grcnt M, grlen M, grval M, gbl M, gbp M, gbdr M, gws M, gtl M, gpos M, gtst M, gtok M, v, gnum M, gec M, gep M, gwrd M, gbrd M, gbak M, gsav M, grow M, garr M, gsol M, ghol M, gask M, gwei M, gtxt M, gplc M, gcrd M, gcbk M, gcsv M, giss M)
def snum (M : MS) (v : Int32) : MS := (gthr M, grcnt M, grlen M, grval M, gbl M, gbp M, gbdr M, gws M, gtl M, gpos M, gtst M, gtok M, glet M, v, gec M, gep M, gwrd M, gbrd M, gbak M, gsav M, grow M, garr M, gsol M, ghol M, gask M, gwei M, gtxt M, gplc M, gcrd M, gcbk M, gcsv M, giss M)
def sec (M : MS) (v : Int32) : MS := (gthr M, grcnt M, grlen M, grval M, gbl M, gbp M, gbdr M, gws M, gtl M, gpos M, gtst M, gtok M, glet M, gnum M, v, gep M, gwrd M, gbrd M, gbak M, gsav M, grow M, garr M, gsol M, ghol M, gask M, gwei M, gtxt M, gplc M, gcrd M, gcbk M, gcsv M, giss M)
def sep (M : MS) (v : Int32) : MS := (gthr M, grcnt M, grlen M, grval M, gbl M, gbp M, gbdr M, gws M, gtl M, gpos M, gtst M, gtok M, glet M, gnum M, gec M, v, gwrd M, gbrd M, gbak M, gsav M, grow M, garr M, gsol M, ghol M, gask M, gwei M, gtxt M, gplc M, gcrd M, gcbk M, gcsv M, giss M)
def swrd (M : MS) (v : Int64) : MS := (gthr M, grcnt M, grlen M, grval M, gbl M, gbp M, gbdr M, gws M, gtl M, gpos M, gtst M, gtok M, glet M, gnum M, gec M, gep M, v, gbrd M, gbak M, gsav M, grow M, garr M, gsol M, ghol M, gask M, gwei M, gtxt M, gplc M, gcrd M, gcbk M, gcsv M, giss M)
def sbrd (M : MS) (v : Nat → Int32) : MS := (gthr M, grcnt M, grlen M, grval M, gbl M, gbp M, gbdr M, gws M, gtl M, gpos M, gtst M, gtok M, glet M, gnum M, gec M, gep M, gwrd M, v, gbak M, gsav M, grow M, garr M, gsol M, ghol M, gask M, gwei M, gtxt M, gplc M, gcrd M, gcbk M, gcsv M, giss M)
def sbak (M : MS) (v : Nat → Int32) : MS := (gthr M, grcnt M, grlen M, grval M, gbl M, gbp M, gbdr M, gws M, gtl M, gpos M, gtst M, gtok M, glet M, gnum M, gec M, gep M, gwrd M, gbrd M, v, gsav M, grow M, garr M, gsol M, ghol M, gask M, gwei M, gtxt M, gplc M, gcrd M, gcbk M, gcsv M, giss M)
def ssav (M : MS) (v : Nat → Int32) : MS := (gthr M, grcnt M, grlen M, grval M, gbl M, gbp M, gbdr M, gws M, gtl M, gpos M, gtst M, gtok M, glet M, gnum M, gec M, gep M, gwrd M, gbrd M, gbak M, v, grow M, garr M, gsol M, ghol M, gask M, gwei M, gtxt M, gplc M, gcrd M, gcbk M, gcsv M, giss M)
def srow (M : MS) (v : Nat → Int32) : MS := (gthr M, grcnt M, grlen M, grval M, gbl M, gbp M, gbdr M, gws M, gtl M, gpos M, gtst M, gtok M, glet M, gnum M, gec M, gep M, gwrd M, gbrd M, gbak M, gsav M, v, garr M, gsol M, ghol M, gask M, gwei M, gtxt M, gplc M, gcrd M, gcbk M, gcsv M, giss M)
def sarr (M : MS) (v : Nat → Int32) : MS := (gthr M, grcnt M, grlen M, grval M, gbl M, gbp M, gbdr M, gws M, gtl M, gpos M, gtst M, gtok M, glet M, gnum M, gec M, gep M, gwrd M, gbrd M, gbak M, gsav M, grow M, v, gsol M, ghol M, gask M, gwei M, gtxt M, gplc M, gcrd M, gcbk M, gcsv M, giss M)
def ssol (M : MS) (v : Nat → Int32) : MS := (gthr M, grcnt M, grlen M, grval M, gbl M, gbp M, gbdr M, gws M, gtl M, gpos M, gtst M, gtok M, glet M, gnum M, gec M, gep M, gwrd M, gbrd M, gbak M, gsav M, grow M, garr M, v, ghol M, gask M, gwei M, gtxt M, gplc M, gcrd M, gcbk M, gcsv M, giss M)
def shol (M : MS) (v : Nat → Int32) : MS := (gthr M, grcnt M, grlen M, grval M, gbl M, gbp M, gbdr M, gws M, gtl M, gpos M, gtst M, gtok M, glet M, gnum M, gec M, gep M, gwrd M, gbrd M, gbak M, gsav M, grow M, garr M, gsol M, v, gask M, gwei M, gtxt M, gplc M, gcrd M, gcbk M, gcsv M, giss M)
def sask (M : MS) (v : Nat → Int32) : MS := (gthr M, grcnt M, grlen M, grval M, gbl M, gbp M, gbdr M, gws M, gtl M, gpos M, gtst M, gtok M, glet M, gnum M, gec M, gep M, gwrd M, gbrd M, gbak M, gsav M, grow M, garr M, gsol M, ghol M, v, gwei M, gtxt M, gplc M, gcrd M, gcbk M, gcsv M, giss M)
def swei (M : MS) (v : Nat → Int32) : MS := (gthr M, grcnt M, grlen M, grval M, gbl M, gbp M, gbdr M, gws M, gtl M, gpos M, gtst M, gtok M, glet M, gnum M, gec M, gep M, gwrd M, gbrd M, gbak M, gsav M, grow M, garr M, gsol M, ghol M, gask M, v, gtxt M, gplc M, gcrd M, gcbk M, gcsv M, giss M)
def stxt (M : MS) (v : Nat → Int32) : MS := (gthr M, grcnt M, grlen M, grval M, gbl M, gbp M, gbdr M, gws M, gtl M, gpos M, gtst M, gtok M, glet M, gnum M, gec M, gep M, gwrd M, gbrd M, gbak M, gsav M, grow M, garr M, gsol M, ghol M, gask M, gwei M, v, gplc M, gcrd M, gcbk M, gcsv M, giss M)
def splc (M : MS) (v : Nat → Int32) : MS := (gthr M, grcnt M, grlen M, grval M, gbl M, gbp M, gbdr M, gws M, gtl M, gpos M, gtst M, gtok M, glet M, gnum M, gec M, gep M, gwrd M, gbrd M, gbak M, gsav M, grow M, garr M, gsol M, ghol M, gask M, gwei M, gtxt M, v, gcrd M, gcbk M, gcsv M, giss M)
def scrd (M : MS) (v : Nat → Int64) : MS := (gthr M, grcnt M, grlen M, grval M, gbl M, gbp M, gbdr M, gws M, gtl M, gpos M, gtst M, gtok M, glet M, gnum M, gec M, gep M, gwrd M, gbrd M, gbak M, gsav M, grow M, garr M, gsol M, ghol M, gask M, gwei M, gtxt M, gplc M, v, gcbk M, gcsv M, giss M)
def scbk (M : MS) (v : Nat → Int64) : MS := (gthr M, grcnt M, grlen M, grval M, gbl M, gbp M, gbdr M, gws M, gtl M, gpos M, gtst M, gtok M, glet M, gnum M, gec M, gep M, gwrd M, gbrd M, gbak M, gsav M, grow M, garr M, gsol M, ghol M, gask M, gwei M, gtxt M, gplc M, gcrd M, v, gcsv M, giss M)
def scsv (M : MS) (v : Nat → Int64) : MS := (gthr M, grcnt M, grlen M, grval M, gbl M, gbp M, gbdr M, gws M, gtl M, gpos M, gtst M, gtok M, glet M, gnum M, gec M, gep M, gwrd M, gbrd M, gbak M, gsav M, grow M, garr M, gsol M, ghol M, gask M, gwei M, gtxt M, gplc M, gcrd M, gcbk M, v, giss M)
def siss (M : MS) (v : Nat → Int32) : MS := (gthr M, grcnt M, grlen M, grval M, gbl M, gbp M, gbdr M, gws M, gtl M, gpos M, gtst M, gtok M, glet M, gnum M, gec M, gep M, gwrd M, gbrd M, gbak M, gsav M, grow M, garr M, gsol M, ghol M, gask M, gwei M, gtxt M, gplc M, gcrd M, gcbk M, gcsv M, v)
def mdO (m : Nat) (M : MS) : MC := cO 11 [.ref (m + 1), .ref (m + 2), .ref (m + 3), .ref (m + 4), .ref (m + 5), .ref (m + 6), .ref (m + 7), .int (gthr M), .ref (m + 8), .int (grcnt M), .int (grlen M), .int (grval M), .ref (m + 9), .int (gbl M), .int (gbp M), .int (gbdr M), .ref (m + 10), .ref (m + 11), .ref (m + 12), .ref (m + 13), .int (gws M), .ref (m + 14), .int (gtl M), .int (gpos M), .int (gtst M), .int (gtok M), .int (glet M), .int (gnum M), .int (gec M), .int (gep M), .long (gwrd M), .ref (m + 15)]
/-- the object holds M, and nothing but its cells differs from h0 -/
def Md (h0 : MH) (m : Nat) (M : MS) (h : MH) : Prop := h m = some (mdO m M) ∧ h (m + 1) = some (cI 568 (gbrd M)) ∧ h (m + 2) = some (cI 568 (gbak M)) ∧ h (m + 3) = some (cI 1136 (gsav M)) ∧ h (m + 8) = some (cI 44 (grow M)) ∧ h (m + 9) = some (cI 46 (garr M)) ∧ h (m + 10) = some (cI 160 (gsol M)) ∧ h (m + 11) = some (cI 20 (ghol M)) ∧ h (m + 12) = some (cI 20 (gask M)) ∧ h (m + 13) = some (cI 20 (gwei M)) ∧ h (m + 14) = some (cI 600 (gtxt M)) ∧ h (m + 15) = some (cI 4 (gplc M)) ∧ h (m + 4) = some (cJ 28 (gcrd M)) ∧ h (m + 5) = some (cJ 28 (gcbk M)) ∧ h (m + 6) = some (cJ 56 (gcsv M)) ∧ h (m + 7) = some (cZ 2 (giss M)) ∧ Off m (m + 16) h0 h
theorem Md.ko {h0 h : MH} {m : Nat} {M : MS} (x : Md h0 m M h) : h m = some (mdO m M) := x.1
theorem Md.kbrd {h0 h : MH} {m : Nat} {M : MS} (x : Md h0 m M h) : h (m + 1) = some (cI 568 (gbrd M)) := x.2.1
theorem Md.kbak {h0 h : MH} {m : Nat} {M : MS} (x : Md h0 m M h) : h (m + 2) = some (cI 568 (gbak M)) := x.2.2.1
theorem Md.ksav {h0 h : MH} {m : Nat} {M : MS} (x : Md h0 m M h) : h (m + 3) = some (cI 1136 (gsav M)) := x.2.2.2.1
theorem Md.krow {h0 h : MH} {m : Nat} {M : MS} (x : Md h0 m M h) : h (m + 8) = some (cI 44 (grow M)) := x.2.2.2.2.1
theorem Md.karr {h0 h : MH} {m : Nat} {M : MS} (x : Md h0 m M h) : h (m + 9) = some (cI 46 (garr M)) := x.2.2.2.2.2.1
theorem Md.ksol {h0 h : MH} {m : Nat} {M : MS} (x : Md h0 m M h) : h (m + 10) = some (cI 160 (gsol M)) := x.2.2.2.2.2.2.1
theorem Md.khol {h0 h : MH} {m : Nat} {M : MS} (x : Md h0 m M h) : h (m + 11) = some (cI 20 (ghol M)) := x.2.2.2.2.2.2.2.1
theorem Md.kask {h0 h : MH} {m : Nat} {M : MS} (x : Md h0 m M h) : h (m + 12) = some (cI 20 (gask M)) := x.2.2.2.2.2.2.2.2.1
theorem Md.kwei {h0 h : MH} {m : Nat} {M : MS} (x : Md h0 m M h) : h (m + 13) = some (cI 20 (gwei M)) := x.2.2.2.2.2.2.2.2.2.1
theorem Md.ktxt {h0 h : MH} {m : Nat} {M : MS} (x : Md h0 m M h) : h (m + 14) = some (cI 600 (gtxt M)) := x.2.2.2.2.2.2.2.2.2.2.1
theorem Md.kplc {h0 h : MH} {m : Nat} {M : MS} (x : Md h0 m M h) : h (m + 15) = some (cI 4 (gplc M)) := x.2.2.2.2.2.2.2.2.2.2.2.1
theorem Md.kcrd {h0 h : MH} {m : Nat} {M : MS} (x : Md h0 m M h) : h (m + 4) = some (cJ 28 (gcrd M)) := x.2.2.2.2.2.2.2.2.2.2.2.2.1
theorem Md.kcbk {h0 h : MH} {m : Nat} {M : MS} (x : Md h0 m M h) : h (m + 5) = some (cJ 28 (gcbk M)) := x.2.2.2.2.2.2.2.2.2.2.2.2.2.1
theorem Md.kcsv {h0 h : MH} {m : Nat} {M : MS} (x : Md h0 m M h) : h (m + 6) = some (cJ 56 (gcsv M)) := x.2.2.2.2.2.2.2.2.2.2.2.2.2.2.1
theorem Md.kiss {h0 h : MH} {m : Nat} {M : MS} (x : Md h0 m M h) : h (m + 7) = some (cZ 2 (giss M)) := x.2.2.2.2.2.2.2.2.2.2.2.2.2.2.2.1
theorem Md.koff {h0 h : MH} {m : Nat} {M : MS} (x : Md h0 m M h) : Off m (m + 16) h0 h := x.2.2.2.2.2.2.2.2.2.2.2.2.2.2.2.2
theorem Md.new {h : MH} {m : Nat} {M : MS} {h0 : MH} (x : Md h0 m M h) : Md h m M h := by
  obtain ⟨x0, x1, x2, x3, x4, x5, x6, x7, x8, x9, x10, x11, x12, x13, x14, x15, x16⟩ := x
  exact ⟨x0, x1, x2, x3, x4, x5, x6, x7, x8, x9, x10, x11, x12, x13, x14, x15, Off.rf⟩
theorem Md.tr {h0 h1 h2 : MH} {m : Nat} {M M' : MS} (x : Md h0 m M h1) (y : Md h1 m M' h2) : Md h0 m M' h2 := by
  have o := x.koff
  obtain ⟨y0, y1, y2, y3, y4, y5, y6, y7, y8, y9, y10, y11, y12, y13, y14, y15, y16⟩ := y
  exact ⟨y0, y1, y2, y3, y4, y5, y6, y7, y8, y9, y10, y11, y12, y13, y14, y15, o.tr y16⟩
theorem Md.pthr {h0 h : MH} {m : Nat} {M : MS} (x : Md h0 m M h) (v : Int32) : Md h0 m (sthr M v) (mup h m (mdO m (sthr M v))) := by
  obtain ⟨x0, x1, x2, x3, x4, x5, x6, x7, x8, x9, x10, x11, x12, x13, x14, x15, x16⟩ := x
  exact ⟨mup_s _ _ _, (mup_n _ _ (by omega)).trans x1, (mup_n _ _ (by omega)).trans x2, (mup_n _ _ (by omega)).trans x3, (mup_n _ _ (by omega)).trans x4, (mup_n _ _ (by omega)).trans x5, (mup_n _ _ (by omega)).trans x6, (mup_n _ _ (by omega)).trans x7, (mup_n _ _ (by omega)).trans x8, (mup_n _ _ (by omega)).trans x9, (mup_n _ _ (by omega)).trans x10, (mup_n _ _ (by omega)).trans x11, (mup_n _ _ (by omega)).trans x12, (mup_n _ _ (by omega)).trans x13, (mup_n _ _ (by omega)).trans x14, (mup_n _ _ (by omega)).trans x15, x16.m _ (by omega) (by omega)⟩
theorem Md.prcnt {h0 h : MH} {m : Nat} {M : MS} (x : Md h0 m M h) (v : Int32) : Md h0 m (srcnt M v) (mup h m (mdO m (srcnt M v))) := by
  obtain ⟨x0, x1, x2, x3, x4, x5, x6, x7, x8, x9, x10, x11, x12, x13, x14, x15, x16⟩ := x
  exact ⟨mup_s _ _ _, (mup_n _ _ (by omega)).trans x1, (mup_n _ _ (by omega)).trans x2, (mup_n _ _ (by omega)).trans x3, (mup_n _ _ (by omega)).trans x4, (mup_n _ _ (by omega)).trans x5, (mup_n _ _ (by omega)).trans x6, (mup_n _ _ (by omega)).trans x7, (mup_n _ _ (by omega)).trans x8, (mup_n _ _ (by omega)).trans x9, (mup_n _ _ (by omega)).trans x10, (mup_n _ _ (by omega)).trans x11, (mup_n _ _ (by omega)).trans x12, (mup_n _ _ (by omega)).trans x13, (mup_n _ _ (by omega)).trans x14, (mup_n _ _ (by omega)).trans x15, x16.m _ (by omega) (by omega)⟩
theorem Md.prlen {h0 h : MH} {m : Nat} {M : MS} (x : Md h0 m M h) (v : Int32) : Md h0 m (srlen M v) (mup h m (mdO m (srlen M v))) := by
  obtain ⟨x0, x1, x2, x3, x4, x5, x6, x7, x8, x9, x10, x11, x12, x13, x14, x15, x16⟩ := x
  exact ⟨mup_s _ _ _, (mup_n _ _ (by omega)).trans x1, (mup_n _ _ (by omega)).trans x2, (mup_n _ _ (by omega)).trans x3, (mup_n _ _ (by omega)).trans x4, (mup_n _ _ (by omega)).trans x5, (mup_n _ _ (by omega)).trans x6, (mup_n _ _ (by omega)).trans x7, (mup_n _ _ (by omega)).trans x8, (mup_n _ _ (by omega)).trans x9, (mup_n _ _ (by omega)).trans x10, (mup_n _ _ (by omega)).trans x11, (mup_n _ _ (by omega)).trans x12, (mup_n _ _ (by omega)).trans x13, (mup_n _ _ (by omega)).trans x14, (mup_n _ _ (by omega)).trans x15, x16.m _ (by omega) (by omega)⟩
theorem Md.prval {h0 h : MH} {m : Nat} {M : MS} (x : Md h0 m M h) (v : Int32) : Md h0 m (srval M v) (mup h m (mdO m (srval M v))) := by
  obtain ⟨x0, x1, x2, x3, x4, x5, x6, x7, x8, x9, x10, x11, x12, x13, x14, x15, x16⟩ := x
  exact ⟨mup_s _ _ _, (mup_n _ _ (by omega)).trans x1, (mup_n _ _ (by omega)).trans x2, (mup_n _ _ (by omega)).trans x3, (mup_n _ _ (by omega)).trans x4, (mup_n _ _ (by omega)).trans x5, (mup_n _ _ (by omega)).trans x6, (mup_n _ _ (by omega)).trans x7, (mup_n _ _ (by omega)).trans x8, (mup_n _ _ (by omega)).trans x9, (mup_n _ _ (by omega)).trans x10, (mup_n _ _ (by omega)).trans x11, (mup_n _ _ (by omega)).trans x12, (mup_n _ _ (by omega)).trans x13, (mup_n _ _ (by omega)).trans x14, (mup_n _ _ (by omega)).trans x15, x16.m _ (by omega) (by omega)⟩
theorem Md.pbl {h0 h : MH} {m : Nat} {M : MS} (x : Md h0 m M h) (v : Int32) : Md h0 m (sbl M v) (mup h m (mdO m (sbl M v))) := by
  obtain ⟨x0, x1, x2, x3, x4, x5, x6, x7, x8, x9, x10, x11, x12, x13, x14, x15, x16⟩ := x
  exact ⟨mup_s _ _ _, (mup_n _ _ (by omega)).trans x1, (mup_n _ _ (by omega)).trans x2, (mup_n _ _ (by omega)).trans x3, (mup_n _ _ (by omega)).trans x4, (mup_n _ _ (by omega)).trans x5, (mup_n _ _ (by omega)).trans x6, (mup_n _ _ (by omega)).trans x7, (mup_n _ _ (by omega)).trans x8, (mup_n _ _ (by omega)).trans x9, (mup_n _ _ (by omega)).trans x10, (mup_n _ _ (by omega)).trans x11, (mup_n _ _ (by omega)).trans x12, (mup_n _ _ (by omega)).trans x13, (mup_n _ _ (by omega)).trans x14, (mup_n _ _ (by omega)).trans x15, x16.m _ (by omega) (by omega)⟩
theorem Md.pbp {h0 h : MH} {m : Nat} {M : MS} (x : Md h0 m M h) (v : Int32) : Md h0 m (sbp M v) (mup h m (mdO m (sbp M v))) := by
  obtain ⟨x0, x1, x2, x3, x4, x5, x6, x7, x8, x9, x10, x11, x12, x13, x14, x15, x16⟩ := x
  exact ⟨mup_s _ _ _, (mup_n _ _ (by omega)).trans x1, (mup_n _ _ (by omega)).trans x2, (mup_n _ _ (by omega)).trans x3, (mup_n _ _ (by omega)).trans x4, (mup_n _ _ (by omega)).trans x5, (mup_n _ _ (by omega)).trans x6, (mup_n _ _ (by omega)).trans x7, (mup_n _ _ (by omega)).trans x8, (mup_n _ _ (by omega)).trans x9, (mup_n _ _ (by omega)).trans x10, (mup_n _ _ (by omega)).trans x11, (mup_n _ _ (by omega)).trans x12, (mup_n _ _ (by omega)).trans x13, (mup_n _ _ (by omega)).trans x14, (mup_n _ _ (by omega)).trans x15, x16.m _ (by omega) (by omega)⟩
theorem Md.pbdr {h0 h : MH} {m : Nat} {M : MS} (x : Md h0 m M h) (v : Int32) : Md h0 m (sbdr M v) (mup h m (mdO m (sbdr M v))) := by
  obtain ⟨x0, x1, x2, x3, x4, x5, x6, x7, x8, x9, x10, x11, x12, x13, x14, x15, x16⟩ := x
  exact ⟨mup_s _ _ _, (mup_n _ _ (by omega)).trans x1, (mup_n _ _ (by omega)).trans x2, (mup_n _ _ (by omega)).trans x3, (mup_n _ _ (by omega)).trans x4, (mup_n _ _ (by omega)).trans x5, (mup_n _ _ (by omega)).trans x6, (mup_n _ _ (by omega)).trans x7, (mup_n _ _ (by omega)).trans x8, (mup_n _ _ (by omega)).trans x9, (mup_n _ _ (by omega)).trans x10, (mup_n _ _ (by omega)).trans x11, (mup_n _ _ (by omega)).trans x12, (mup_n _ _ (by omega)).trans x13, (mup_n _ _ (by omega)).trans x14, (mup_n _ _ (by omega)).trans x15, x16.m _ (by omega) (by omega)⟩
theorem Md.pws {h0 h : MH} {m : Nat} {M : MS} (x : Md h0 m M h) (v : Int32) : Md h0 m (sws M v) (mup h m (mdO m (sws M v))) := by
  obtain ⟨x0, x1, x2, x3, x4, x5, x6, x7, x8, x9, x10, x11, x12, x13, x14, x15, x16⟩ := x
  exact ⟨mup_s _ _ _, (mup_n _ _ (by omega)).trans x1, (mup_n _ _ (by omega)).trans x2, (mup_n _ _ (by omega)).trans x3, (mup_n _ _ (by omega)).trans x4, (mup_n _ _ (by omega)).trans x5, (mup_n _ _ (by omega)).trans x6, (mup_n _ _ (by omega)).trans x7, (mup_n _ _ (by omega)).trans x8, (mup_n _ _ (by omega)).trans x9, (mup_n _ _ (by omega)).trans x10, (mup_n _ _ (by omega)).trans x11, (mup_n _ _ (by omega)).trans x12, (mup_n _ _ (by omega)).trans x13, (mup_n _ _ (by omega)).trans x14, (mup_n _ _ (by omega)).trans x15, x16.m _ (by omega) (by omega)⟩
theorem Md.ptl {h0 h : MH} {m : Nat} {M : MS} (x : Md h0 m M h) (v : Int32) : Md h0 m (stl M v) (mup h m (mdO m (stl M v))) := by
  obtain ⟨x0, x1, x2, x3, x4, x5, x6, x7, x8, x9, x10, x11, x12, x13, x14, x15, x16⟩ := x
  exact ⟨mup_s _ _ _, (mup_n _ _ (by omega)).trans x1, (mup_n _ _ (by omega)).trans x2, (mup_n _ _ (by omega)).trans x3, (mup_n _ _ (by omega)).trans x4, (mup_n _ _ (by omega)).trans x5, (mup_n _ _ (by omega)).trans x6, (mup_n _ _ (by omega)).trans x7, (mup_n _ _ (by omega)).trans x8, (mup_n _ _ (by omega)).trans x9, (mup_n _ _ (by omega)).trans x10, (mup_n _ _ (by omega)).trans x11, (mup_n _ _ (by omega)).trans x12, (mup_n _ _ (by omega)).trans x13, (mup_n _ _ (by omega)).trans x14, (mup_n _ _ (by omega)).trans x15, x16.m _ (by omega) (by omega)⟩
theorem Md.ppos {h0 h : MH} {m : Nat} {M : MS} (x : Md h0 m M h) (v : Int32) : Md h0 m (spos M v) (mup h m (mdO m (spos M v))) := by
  obtain ⟨x0, x1, x2, x3, x4, x5, x6, x7, x8, x9, x10, x11, x12, x13, x14, x15, x16⟩ := x
  exact ⟨mup_s _ _ _, (mup_n _ _ (by omega)).trans x1, (mup_n _ _ (by omega)).trans x2, (mup_n _ _ (by omega)).trans x3, (mup_n _ _ (by omega)).trans x4, (mup_n _ _ (by omega)).trans x5, (mup_n _ _ (by omega)).trans x6, (mup_n _ _ (by omega)).trans x7, (mup_n _ _ (by omega)).trans x8, (mup_n _ _ (by omega)).trans x9, (mup_n _ _ (by omega)).trans x10, (mup_n _ _ (by omega)).trans x11, (mup_n _ _ (by omega)).trans x12, (mup_n _ _ (by omega)).trans x13, (mup_n _ _ (by omega)).trans x14, (mup_n _ _ (by omega)).trans x15, x16.m _ (by omega) (by omega)⟩
theorem Md.ptst {h0 h : MH} {m : Nat} {M : MS} (x : Md h0 m M h) (v : Int32) : Md h0 m (stst M v) (mup h m (mdO m (stst M v))) := by
  obtain ⟨x0, x1, x2, x3, x4, x5, x6, x7, x8, x9, x10, x11, x12, x13, x14, x15, x16⟩ := x
  exact ⟨mup_s _ _ _, (mup_n _ _ (by omega)).trans x1, (mup_n _ _ (by omega)).trans x2, (mup_n _ _ (by omega)).trans x3, (mup_n _ _ (by omega)).trans x4, (mup_n _ _ (by omega)).trans x5, (mup_n _ _ (by omega)).trans x6, (mup_n _ _ (by omega)).trans x7, (mup_n _ _ (by omega)).trans x8, (mup_n _ _ (by omega)).trans x9, (mup_n _ _ (by omega)).trans x10, (mup_n _ _ (by omega)).trans x11, (mup_n _ _ (by omega)).trans x12, (mup_n _ _ (by omega)).trans x13, (mup_n _ _ (by omega)).trans x14, (mup_n _ _ (by omega)).trans x15, x16.m _ (by omega) (by omega)⟩
theorem Md.ptok {h0 h : MH} {m : Nat} {M : MS} (x : Md h0 m M h) (v : Int32) : Md h0 m (stok M v) (mup h m (mdO m (stok M v))) := by
  obtain ⟨x0, x1, x2, x3, x4, x5, x6, x7, x8, x9, x10, x11, x12, x13, x14, x15, x16⟩ := x
  exact ⟨mup_s _ _ _, (mup_n _ _ (by omega)).trans x1, (mup_n _ _ (by omega)).trans x2, (mup_n _ _ (by omega)).trans x3, (mup_n _ _ (by omega)).trans x4, (mup_n _ _ (by omega)).trans x5, (mup_n _ _ (by omega)).trans x6, (mup_n _ _ (by omega)).trans x7, (mup_n _ _ (by omega)).trans x8, (mup_n _ _ (by omega)).trans x9, (mup_n _ _ (by omega)).trans x10, (mup_n _ _ (by omega)).trans x11, (mup_n _ _ (by omega)).trans x12, (mup_n _ _ (by omega)).trans x13, (mup_n _ _ (by omega)).trans x14, (mup_n _ _ (by omega)).trans x15, x16.m _ (by omega) (by omega)⟩
theorem Md.plet {h0 h : MH} {m : Nat} {M : MS} (x : Md h0 m M h) (v : Int32) : Md h0 m (slet M v) (mup h m (mdO m (slet M v))) := by
  obtain ⟨x0, x1, x2, x3, x4, x5, x6, x7, x8, x9, x10, x11, x12, x13, x14, x15, x16⟩ := x
  exact ⟨mup_s _ _ _, (mup_n _ _ (by omega)).trans x1, (mup_n _ _ (by omega)).trans x2, (mup_n _ _ (by omega)).trans x3, (mup_n _ _ (by omega)).trans x4, (mup_n _ _ (by omega)).trans x5, (mup_n _ _ (by omega)).trans x6, (mup_n _ _ (by omega)).trans x7, (mup_n _ _ (by omega)).trans x8, (mup_n _ _ (by omega)).trans x9, (mup_n _ _ (by omega)).trans x10, (mup_n _ _ (by omega)).trans x11, (mup_n _ _ (by omega)).trans x12, (mup_n _ _ (by omega)).trans x13, (mup_n _ _ (by omega)).trans x14, (mup_n _ _ (by omega)).trans x15, x16.m _ (by omega) (by omega)⟩
theorem Md.pnum {h0 h : MH} {m : Nat} {M : MS} (x : Md h0 m M h) (v : Int32) : Md h0 m (snum M v) (mup h m (mdO m (snum M v))) := by
  obtain ⟨x0, x1, x2, x3, x4, x5, x6, x7, x8, x9, x10, x11, x12, x13, x14, x15, x16⟩ := x
  exact ⟨mup_s _ _ _, (mup_n _ _ (by omega)).trans x1, (mup_n _ _ (by omega)).trans x2, (mup_n _ _ (by omega)).trans x3, (mup_n _ _ (by omega)).trans x4, (mup_n _ _ (by omega)).trans x5, (mup_n _ _ (by omega)).trans x6, (mup_n _ _ (by omega)).trans x7, (mup_n _ _ (by omega)).trans x8, (mup_n _ _ (by omega)).trans x9, (mup_n _ _ (by omega)).trans x10, (mup_n _ _ (by omega)).trans x11, (mup_n _ _ (by omega)).trans x12, (mup_n _ _ (by omega)).trans x13, (mup_n _ _ (by omega)).trans x14, (mup_n _ _ (by omega)).trans x15, x16.m _ (by omega) (by omega)⟩
theorem Md.pec {h0 h : MH} {m : Nat} {M : MS} (x : Md h0 m M h) (v : Int32) : Md h0 m (sec M v) (mup h m (mdO m (sec M v))) := by
  obtain ⟨x0, x1, x2, x3, x4, x5, x6, x7, x8, x9, x10, x11, x12, x13, x14, x15, x16⟩ := x
  exact ⟨mup_s _ _ _, (mup_n _ _ (by omega)).trans x1, (mup_n _ _ (by omega)).trans x2, (mup_n _ _ (by omega)).trans x3, (mup_n _ _ (by omega)).trans x4, (mup_n _ _ (by omega)).trans x5, (mup_n _ _ (by omega)).trans x6, (mup_n _ _ (by omega)).trans x7, (mup_n _ _ (by omega)).trans x8, (mup_n _ _ (by omega)).trans x9, (mup_n _ _ (by omega)).trans x10, (mup_n _ _ (by omega)).trans x11, (mup_n _ _ (by omega)).trans x12, (mup_n _ _ (by omega)).trans x13, (mup_n _ _ (by omega)).trans x14, (mup_n _ _ (by omega)).trans x15, x16.m _ (by omega) (by omega)⟩
theorem Md.pep {h0 h : MH} {m : Nat} {M : MS} (x : Md h0 m M h) (v : Int32) : Md h0 m (sep M v) (mup h m (mdO m (sep M v))) := by
  obtain ⟨x0, x1, x2, x3, x4, x5, x6, x7, x8, x9, x10, x11, x12, x13, x14, x15, x16⟩ := x
  exact ⟨mup_s _ _ _, (mup_n _ _ (by omega)).trans x1, (mup_n _ _ (by omega)).trans x2, (mup_n _ _ (by omega)).trans x3, (mup_n _ _ (by omega)).trans x4, (mup_n _ _ (by omega)).trans x5, (mup_n _ _ (by omega)).trans x6, (mup_n _ _ (by omega)).trans x7, (mup_n _ _ (by omega)).trans x8, (mup_n _ _ (by omega)).trans x9, (mup_n _ _ (by omega)).trans x10, (mup_n _ _ (by omega)).trans x11, (mup_n _ _ (by omega)).trans x12, (mup_n _ _ (by omega)).trans x13, (mup_n _ _ (by omega)).trans x14, (mup_n _ _ (by omega)).trans x15, x16.m _ (by omega) (by omega)⟩
theorem Md.pwrd {h0 h : MH} {m : Nat} {M : MS} (x : Md h0 m M h) (v : Int64) : Md h0 m (swrd M v) (mup h m (mdO m (swrd M v))) := by
  obtain ⟨x0, x1, x2, x3, x4, x5, x6, x7, x8, x9, x10, x11, x12, x13, x14, x15, x16⟩ := x
  exact ⟨mup_s _ _ _, (mup_n _ _ (by omega)).trans x1, (mup_n _ _ (by omega)).trans x2, (mup_n _ _ (by omega)).trans x3, (mup_n _ _ (by omega)).trans x4, (mup_n _ _ (by omega)).trans x5, (mup_n _ _ (by omega)).trans x6, (mup_n _ _ (by omega)).trans x7, (mup_n _ _ (by omega)).trans x8, (mup_n _ _ (by omega)).trans x9, (mup_n _ _ (by omega)).trans x10, (mup_n _ _ (by omega)).trans x11, (mup_n _ _ (by omega)).trans x12, (mup_n _ _ (by omega)).trans x13, (mup_n _ _ (by omega)).trans x14, (mup_n _ _ (by omega)).trans x15, x16.m _ (by omega) (by omega)⟩
theorem Md.pbrd {h0 h : MH} {m : Nat} {M : MS} (x : Md h0 m M h) (v : Nat → Int32) : Md h0 m (sbrd M v) (mup h (m + 1) (cI 568 v)) := by
  obtain ⟨x0, x1, x2, x3, x4, x5, x6, x7, x8, x9, x10, x11, x12, x13, x14, x15, x16⟩ := x
  exact ⟨(mup_n _ _ (by omega)).trans x0, mup_s _ _ _, (mup_n _ _ (by omega)).trans x2, (mup_n _ _ (by omega)).trans x3, (mup_n _ _ (by omega)).trans x4, (mup_n _ _ (by omega)).trans x5, (mup_n _ _ (by omega)).trans x6, (mup_n _ _ (by omega)).trans x7, (mup_n _ _ (by omega)).trans x8, (mup_n _ _ (by omega)).trans x9, (mup_n _ _ (by omega)).trans x10, (mup_n _ _ (by omega)).trans x11, (mup_n _ _ (by omega)).trans x12, (mup_n _ _ (by omega)).trans x13, (mup_n _ _ (by omega)).trans x14, (mup_n _ _ (by omega)).trans x15, x16.m _ (by omega) (by omega)⟩
theorem Md.pbak {h0 h : MH} {m : Nat} {M : MS} (x : Md h0 m M h) (v : Nat → Int32) : Md h0 m (sbak M v) (mup h (m + 2) (cI 568 v)) := by
  obtain ⟨x0, x1, x2, x3, x4, x5, x6, x7, x8, x9, x10, x11, x12, x13, x14, x15, x16⟩ := x
  exact ⟨(mup_n _ _ (by omega)).trans x0, (mup_n _ _ (by omega)).trans x1, mup_s _ _ _, (mup_n _ _ (by omega)).trans x3, (mup_n _ _ (by omega)).trans x4, (mup_n _ _ (by omega)).trans x5, (mup_n _ _ (by omega)).trans x6, (mup_n _ _ (by omega)).trans x7, (mup_n _ _ (by omega)).trans x8, (mup_n _ _ (by omega)).trans x9, (mup_n _ _ (by omega)).trans x10, (mup_n _ _ (by omega)).trans x11, (mup_n _ _ (by omega)).trans x12, (mup_n _ _ (by omega)).trans x13, (mup_n _ _ (by omega)).trans x14, (mup_n _ _ (by omega)).trans x15, x16.m _ (by omega) (by omega)⟩
theorem Md.psav {h0 h : MH} {m : Nat} {M : MS} (x : Md h0 m M h) (v : Nat → Int32) : Md h0 m (ssav M v) (mup h (m + 3) (cI 1136 v)) := by
  obtain ⟨x0, x1, x2, x3, x4, x5, x6, x7, x8, x9, x10, x11, x12, x13, x14, x15, x16⟩ := x
  exact ⟨(mup_n _ _ (by omega)).trans x0, (mup_n _ _ (by omega)).trans x1, (mup_n _ _ (by omega)).trans x2, mup_s _ _ _, (mup_n _ _ (by omega)).trans x4, (mup_n _ _ (by omega)).trans x5, (mup_n _ _ (by omega)).trans x6, (mup_n _ _ (by omega)).trans x7, (mup_n _ _ (by omega)).trans x8, (mup_n _ _ (by omega)).trans x9, (mup_n _ _ (by omega)).trans x10, (mup_n _ _ (by omega)).trans x11, (mup_n _ _ (by omega)).trans x12, (mup_n _ _ (by omega)).trans x13, (mup_n _ _ (by omega)).trans x14, (mup_n _ _ (by omega)).trans x15, x16.m _ (by omega) (by omega)⟩
theorem Md.prow {h0 h : MH} {m : Nat} {M : MS} (x : Md h0 m M h) (v : Nat → Int32) : Md h0 m (srow M v) (mup h (m + 8) (cI 44 v)) := by
  obtain ⟨x0, x1, x2, x3, x4, x5, x6, x7, x8, x9, x10, x11, x12, x13, x14, x15, x16⟩ := x
  exact ⟨(mup_n _ _ (by omega)).trans x0, (mup_n _ _ (by omega)).trans x1, (mup_n _ _ (by omega)).trans x2, (mup_n _ _ (by omega)).trans x3, mup_s _ _ _, (mup_n _ _ (by omega)).trans x5, (mup_n _ _ (by omega)).trans x6, (mup_n _ _ (by omega)).trans x7, (mup_n _ _ (by omega)).trans x8, (mup_n _ _ (by omega)).trans x9, (mup_n _ _ (by omega)).trans x10, (mup_n _ _ (by omega)).trans x11, (mup_n _ _ (by omega)).trans x12, (mup_n _ _ (by omega)).trans x13, (mup_n _ _ (by omega)).trans x14, (mup_n _ _ (by omega)).trans x15, x16.m _ (by omega) (by omega)⟩
theorem Md.parr {h0 h : MH} {m : Nat} {M : MS} (x : Md h0 m M h) (v : Nat → Int32) : Md h0 m (sarr M v) (mup h (m + 9) (cI 46 v)) := by
  obtain ⟨x0, x1, x2, x3, x4, x5, x6, x7, x8, x9, x10, x11, x12, x13, x14, x15, x16⟩ := x
  exact ⟨(mup_n _ _ (by omega)).trans x0, (mup_n _ _ (by omega)).trans x1, (mup_n _ _ (by omega)).trans x2, (mup_n _ _ (by omega)).trans x3, (mup_n _ _ (by omega)).trans x4, mup_s _ _ _, (mup_n _ _ (by omega)).trans x6, (mup_n _ _ (by omega)).trans x7, (mup_n _ _ (by omega)).trans x8, (mup_n _ _ (by omega)).trans x9, (mup_n _ _ (by omega)).trans x10, (mup_n _ _ (by omega)).trans x11, (mup_n _ _ (by omega)).trans x12, (mup_n _ _ (by omega)).trans x13, (mup_n _ _ (by omega)).trans x14, (mup_n _ _ (by omega)).trans x15, x16.m _ (by omega) (by omega)⟩
theorem Md.psol {h0 h : MH} {m : Nat} {M : MS} (x : Md h0 m M h) (v : Nat → Int32) : Md h0 m (ssol M v) (mup h (m + 10) (cI 160 v)) := by
  obtain ⟨x0, x1, x2, x3, x4, x5, x6, x7, x8, x9, x10, x11, x12, x13, x14, x15, x16⟩ := x
  exact ⟨(mup_n _ _ (by omega)).trans x0, (mup_n _ _ (by omega)).trans x1, (mup_n _ _ (by omega)).trans x2, (mup_n _ _ (by omega)).trans x3, (mup_n _ _ (by omega)).trans x4, (mup_n _ _ (by omega)).trans x5, mup_s _ _ _, (mup_n _ _ (by omega)).trans x7, (mup_n _ _ (by omega)).trans x8, (mup_n _ _ (by omega)).trans x9, (mup_n _ _ (by omega)).trans x10, (mup_n _ _ (by omega)).trans x11, (mup_n _ _ (by omega)).trans x12, (mup_n _ _ (by omega)).trans x13, (mup_n _ _ (by omega)).trans x14, (mup_n _ _ (by omega)).trans x15, x16.m _ (by omega) (by omega)⟩
theorem Md.phol {h0 h : MH} {m : Nat} {M : MS} (x : Md h0 m M h) (v : Nat → Int32) : Md h0 m (shol M v) (mup h (m + 11) (cI 20 v)) := by
  obtain ⟨x0, x1, x2, x3, x4, x5, x6, x7, x8, x9, x10, x11, x12, x13, x14, x15, x16⟩ := x
  exact ⟨(mup_n _ _ (by omega)).trans x0, (mup_n _ _ (by omega)).trans x1, (mup_n _ _ (by omega)).trans x2, (mup_n _ _ (by omega)).trans x3, (mup_n _ _ (by omega)).trans x4, (mup_n _ _ (by omega)).trans x5, (mup_n _ _ (by omega)).trans x6, mup_s _ _ _, (mup_n _ _ (by omega)).trans x8, (mup_n _ _ (by omega)).trans x9, (mup_n _ _ (by omega)).trans x10, (mup_n _ _ (by omega)).trans x11, (mup_n _ _ (by omega)).trans x12, (mup_n _ _ (by omega)).trans x13, (mup_n _ _ (by omega)).trans x14, (mup_n _ _ (by omega)).trans x15, x16.m _ (by omega) (by omega)⟩
theorem Md.pask {h0 h : MH} {m : Nat} {M : MS} (x : Md h0 m M h) (v : Nat → Int32) : Md h0 m (sask M v) (mup h (m + 12) (cI 20 v)) := by
  obtain ⟨x0, x1, x2, x3, x4, x5, x6, x7, x8, x9, x10, x11, x12, x13, x14, x15, x16⟩ := x
  exact ⟨(mup_n _ _ (by omega)).trans x0, (mup_n _ _ (by omega)).trans x1, (mup_n _ _ (by omega)).trans x2, (mup_n _ _ (by omega)).trans x3, (mup_n _ _ (by omega)).trans x4, (mup_n _ _ (by omega)).trans x5, (mup_n _ _ (by omega)).trans x6, (mup_n _ _ (by omega)).trans x7, mup_s _ _ _, (mup_n _ _ (by omega)).trans x9, (mup_n _ _ (by omega)).trans x10, (mup_n _ _ (by omega)).trans x11, (mup_n _ _ (by omega)).trans x12, (mup_n _ _ (by omega)).trans x13, (mup_n _ _ (by omega)).trans x14, (mup_n _ _ (by omega)).trans x15, x16.m _ (by omega) (by omega)⟩
theorem Md.pwei {h0 h : MH} {m : Nat} {M : MS} (x : Md h0 m M h) (v : Nat → Int32) : Md h0 m (swei M v) (mup h (m + 13) (cI 20 v)) := by
  obtain ⟨x0, x1, x2, x3, x4, x5, x6, x7, x8, x9, x10, x11, x12, x13, x14, x15, x16⟩ := x
  exact ⟨(mup_n _ _ (by omega)).trans x0, (mup_n _ _ (by omega)).trans x1, (mup_n _ _ (by omega)).trans x2, (mup_n _ _ (by omega)).trans x3, (mup_n _ _ (by omega)).trans x4, (mup_n _ _ (by omega)).trans x5, (mup_n _ _ (by omega)).trans x6, (mup_n _ _ (by omega)).trans x7, (mup_n _ _ (by omega)).trans x8, mup_s _ _ _, (mup_n _ _ (by omega)).trans x10, (mup_n _ _ (by omega)).trans x11, (mup_n _ _ (by omega)).trans x12, (mup_n _ _ (by omega)).trans x13, (mup_n _ _ (by omega)).trans x14, (mup_n _ _ (by omega)).trans x15, x16.m _ (by omega) (by omega)⟩
theorem Md.ptxt {h0 h : MH} {m : Nat} {M : MS} (x : Md h0 m M h) (v : Nat → Int32) : Md h0 m (stxt M v) (mup h (m + 14) (cI 600 v)) := by
  obtain ⟨x0, x1, x2, x3, x4, x5, x6, x7, x8, x9, x10, x11, x12, x13, x14, x15, x16⟩ := x
  exact ⟨(mup_n _ _ (by omega)).trans x0, (mup_n _ _ (by omega)).trans x1, (mup_n _ _ (by omega)).trans x2, (mup_n _ _ (by omega)).trans x3, (mup_n _ _ (by omega)).trans x4, (mup_n _ _ (by omega)).trans x5, (mup_n _ _ (by omega)).trans x6, (mup_n _ _ (by omega)).trans x7, (mup_n _ _ (by omega)).trans x8, (mup_n _ _ (by omega)).trans x9, mup_s _ _ _, (mup_n _ _ (by omega)).trans x11, (mup_n _ _ (by omega)).trans x12, (mup_n _ _ (by omega)).trans x13, (mup_n _ _ (by omega)).trans x14, (mup_n _ _ (by omega)).trans x15, x16.m _ (by omega) (by omega)⟩
theorem Md.pplc {h0 h : MH} {m : Nat} {M : MS} (x : Md h0 m M h) (v : Nat → Int32) : Md h0 m (splc M v) (mup h (m + 15) (cI 4 v)) := by
  obtain ⟨x0, x1, x2, x3, x4, x5, x6, x7, x8, x9, x10, x11, x12, x13, x14, x15, x16⟩ := x
  exact ⟨(mup_n _ _ (by omega)).trans x0, (mup_n _ _ (by omega)).trans x1, (mup_n _ _ (by omega)).trans x2, (mup_n _ _ (by omega)).trans x3, (mup_n _ _ (by omega)).trans x4, (mup_n _ _ (by omega)).trans x5, (mup_n _ _ (by omega)).trans x6, (mup_n _ _ (by omega)).trans x7, (mup_n _ _ (by omega)).trans x8, (mup_n _ _ (by omega)).trans x9, (mup_n _ _ (by omega)).trans x10, mup_s _ _ _, (mup_n _ _ (by omega)).trans x12, (mup_n _ _ (by omega)).trans x13, (mup_n _ _ (by omega)).trans x14, (mup_n _ _ (by omega)).trans x15, x16.m _ (by omega) (by omega)⟩
theorem Md.pcrd {h0 h : MH} {m : Nat} {M : MS} (x : Md h0 m M h) (v : Nat → Int64) : Md h0 m (scrd M v) (mup h (m + 4) (cJ 28 v)) := by
  obtain ⟨x0, x1, x2, x3, x4, x5, x6, x7, x8, x9, x10, x11, x12, x13, x14, x15, x16⟩ := x
  exact ⟨(mup_n _ _ (by omega)).trans x0, (mup_n _ _ (by omega)).trans x1, (mup_n _ _ (by omega)).trans x2, (mup_n _ _ (by omega)).trans x3, (mup_n _ _ (by omega)).trans x4, (mup_n _ _ (by omega)).trans x5, (mup_n _ _ (by omega)).trans x6, (mup_n _ _ (by omega)).trans x7, (mup_n _ _ (by omega)).trans x8, (mup_n _ _ (by omega)).trans x9, (mup_n _ _ (by omega)).trans x10, (mup_n _ _ (by omega)).trans x11, mup_s _ _ _, (mup_n _ _ (by omega)).trans x13, (mup_n _ _ (by omega)).trans x14, (mup_n _ _ (by omega)).trans x15, x16.m _ (by omega) (by omega)⟩
theorem Md.pcbk {h0 h : MH} {m : Nat} {M : MS} (x : Md h0 m M h) (v : Nat → Int64) : Md h0 m (scbk M v) (mup h (m + 5) (cJ 28 v)) := by
  obtain ⟨x0, x1, x2, x3, x4, x5, x6, x7, x8, x9, x10, x11, x12, x13, x14, x15, x16⟩ := x
  exact ⟨(mup_n _ _ (by omega)).trans x0, (mup_n _ _ (by omega)).trans x1, (mup_n _ _ (by omega)).trans x2, (mup_n _ _ (by omega)).trans x3, (mup_n _ _ (by omega)).trans x4, (mup_n _ _ (by omega)).trans x5, (mup_n _ _ (by omega)).trans x6, (mup_n _ _ (by omega)).trans x7, (mup_n _ _ (by omega)).trans x8, (mup_n _ _ (by omega)).trans x9, (mup_n _ _ (by omega)).trans x10, (mup_n _ _ (by omega)).trans x11, (mup_n _ _ (by omega)).trans x12, mup_s _ _ _, (mup_n _ _ (by omega)).trans x14, (mup_n _ _ (by omega)).trans x15, x16.m _ (by omega) (by omega)⟩
theorem Md.pcsv {h0 h : MH} {m : Nat} {M : MS} (x : Md h0 m M h) (v : Nat → Int64) : Md h0 m (scsv M v) (mup h (m + 6) (cJ 56 v)) := by
  obtain ⟨x0, x1, x2, x3, x4, x5, x6, x7, x8, x9, x10, x11, x12, x13, x14, x15, x16⟩ := x
  exact ⟨(mup_n _ _ (by omega)).trans x0, (mup_n _ _ (by omega)).trans x1, (mup_n _ _ (by omega)).trans x2, (mup_n _ _ (by omega)).trans x3, (mup_n _ _ (by omega)).trans x4, (mup_n _ _ (by omega)).trans x5, (mup_n _ _ (by omega)).trans x6, (mup_n _ _ (by omega)).trans x7, (mup_n _ _ (by omega)).trans x8, (mup_n _ _ (by omega)).trans x9, (mup_n _ _ (by omega)).trans x10, (mup_n _ _ (by omega)).trans x11, (mup_n _ _ (by omega)).trans x12, (mup_n _ _ (by omega)).trans x13, mup_s _ _ _, (mup_n _ _ (by omega)).trans x15, x16.m _ (by omega) (by omega)⟩
theorem Md.piss {h0 h : MH} {m : Nat} {M : MS} (x : Md h0 m M h) (v : Nat → Int32) : Md h0 m (siss M v) (mup h (m + 7) (cZ 2 v)) := by
  obtain ⟨x0, x1, x2, x3, x4, x5, x6, x7, x8, x9, x10, x11, x12, x13, x14, x15, x16⟩ := x
  exact ⟨(mup_n _ _ (by omega)).trans x0, (mup_n _ _ (by omega)).trans x1, (mup_n _ _ (by omega)).trans x2, (mup_n _ _ (by omega)).trans x3, (mup_n _ _ (by omega)).trans x4, (mup_n _ _ (by omega)).trans x5, (mup_n _ _ (by omega)).trans x6, (mup_n _ _ (by omega)).trans x7, (mup_n _ _ (by omega)).trans x8, (mup_n _ _ (by omega)).trans x9, (mup_n _ _ (by omega)).trans x10, (mup_n _ _ (by omega)).trans x11, (mup_n _ _ (by omega)).trans x12, (mup_n _ _ (by omega)).trans x13, (mup_n _ _ (by omega)).trans x14, mup_s _ _ _, x16.m _ (by omega) (by omega)⟩
theorem ethr_thr (M : MS) (v : Int32) : gthr (sthr M v) = v := rfl
theorem ercnt_thr (M : MS) (v : Int32) : grcnt (sthr M v) = grcnt M := rfl
theorem erlen_thr (M : MS) (v : Int32) : grlen (sthr M v) = grlen M := rfl
theorem erval_thr (M : MS) (v : Int32) : grval (sthr M v) = grval M := rfl
theorem ebl_thr (M : MS) (v : Int32) : gbl (sthr M v) = gbl M := rfl
theorem ebp_thr (M : MS) (v : Int32) : gbp (sthr M v) = gbp M := rfl
theorem ebdr_thr (M : MS) (v : Int32) : gbdr (sthr M v) = gbdr M := rfl
theorem ews_thr (M : MS) (v : Int32) : gws (sthr M v) = gws M := rfl
theorem etl_thr (M : MS) (v : Int32) : gtl (sthr M v) = gtl M := rfl
theorem epos_thr (M : MS) (v : Int32) : gpos (sthr M v) = gpos M := rfl
theorem etst_thr (M : MS) (v : Int32) : gtst (sthr M v) = gtst M := rfl
theorem etok_thr (M : MS) (v : Int32) : gtok (sthr M v) = gtok M := rfl
theorem elet_thr (M : MS) (v : Int32) : glet (sthr M v) = glet M := rfl
theorem enum_thr (M : MS) (v : Int32) : gnum (sthr M v) = gnum M := rfl
theorem eec_thr (M : MS) (v : Int32) : gec (sthr M v) = gec M := rfl
theorem eep_thr (M : MS) (v : Int32) : gep (sthr M v) = gep M := rfl
theorem ewrd_thr (M : MS) (v : Int32) : gwrd (sthr M v) = gwrd M := rfl
theorem ebrd_thr (M : MS) (v : Int32) : gbrd (sthr M v) = gbrd M := rfl
theorem ebak_thr (M : MS) (v : Int32) : gbak (sthr M v) = gbak M := rfl
theorem esav_thr (M : MS) (v : Int32) : gsav (sthr M v) = gsav M := rfl
theorem erow_thr (M : MS) (v : Int32) : grow (sthr M v) = grow M := rfl
theorem earr_thr (M : MS) (v : Int32) : garr (sthr M v) = garr M := rfl
theorem esol_thr (M : MS) (v : Int32) : gsol (sthr M v) = gsol M := rfl
theorem ehol_thr (M : MS) (v : Int32) : ghol (sthr M v) = ghol M := rfl
theorem eask_thr (M : MS) (v : Int32) : gask (sthr M v) = gask M := rfl
theorem ewei_thr (M : MS) (v : Int32) : gwei (sthr M v) = gwei M := rfl
theorem etxt_thr (M : MS) (v : Int32) : gtxt (sthr M v) = gtxt M := rfl
theorem eplc_thr (M : MS) (v : Int32) : gplc (sthr M v) = gplc M := rfl
theorem ecrd_thr (M : MS) (v : Int32) : gcrd (sthr M v) = gcrd M := rfl
theorem ecbk_thr (M : MS) (v : Int32) : gcbk (sthr M v) = gcbk M := rfl
theorem ecsv_thr (M : MS) (v : Int32) : gcsv (sthr M v) = gcsv M := rfl
theorem eiss_thr (M : MS) (v : Int32) : giss (sthr M v) = giss M := rfl
theorem ethr_rcnt (M : MS) (v : Int32) : gthr (srcnt M v) = gthr M := rfl
theorem ercnt_rcnt (M : MS) (v : Int32) : grcnt (srcnt M v) = v := rfl
theorem erlen_rcnt (M : MS) (v : Int32) : grlen (srcnt M v) = grlen M := rfl
theorem erval_rcnt (M : MS) (v : Int32) : grval (srcnt M v) = grval M := rfl
theorem ebl_rcnt (M : MS) (v : Int32) : gbl (srcnt M v) = gbl M := rfl
theorem ebp_rcnt (M : MS) (v : Int32) : gbp (srcnt M v) = gbp M := rfl
theorem ebdr_rcnt (M : MS) (v : Int32) : gbdr (srcnt M v) = gbdr M := rfl
theorem ews_rcnt (M : MS) (v : Int32) : gws (srcnt M v) = gws M := rfl
theorem etl_rcnt (M : MS) (v : Int32) : gtl (srcnt M v) = gtl M := rfl
theorem epos_rcnt (M : MS) (v : Int32) : gpos (srcnt M v) = gpos M := rfl
theorem etst_rcnt (M : MS) (v : Int32) : gtst (srcnt M v) = gtst M := rfl
theorem etok_rcnt (M : MS) (v : Int32) : gtok (srcnt M v) = gtok M := rfl
theorem elet_rcnt (M : MS) (v : Int32) : glet (srcnt M v) = glet M := rfl
theorem enum_rcnt (M : MS) (v : Int32) : gnum (srcnt M v) = gnum M := rfl
theorem eec_rcnt (M : MS) (v : Int32) : gec (srcnt M v) = gec M := rfl
theorem eep_rcnt (M : MS) (v : Int32) : gep (srcnt M v) = gep M := rfl
theorem ewrd_rcnt (M : MS) (v : Int32) : gwrd (srcnt M v) = gwrd M := rfl
theorem ebrd_rcnt (M : MS) (v : Int32) : gbrd (srcnt M v) = gbrd M := rfl
theorem ebak_rcnt (M : MS) (v : Int32) : gbak (srcnt M v) = gbak M := rfl
theorem esav_rcnt (M : MS) (v : Int32) : gsav (srcnt M v) = gsav M := rfl
theorem erow_rcnt (M : MS) (v : Int32) : grow (srcnt M v) = grow M := rfl
theorem earr_rcnt (M : MS) (v : Int32) : garr (srcnt M v) = garr M := rfl
theorem esol_rcnt (M : MS) (v : Int32) : gsol (srcnt M v) = gsol M := rfl
theorem ehol_rcnt (M : MS) (v : Int32) : ghol (srcnt M v) = ghol M := rfl
theorem eask_rcnt (M : MS) (v : Int32) : gask (srcnt M v) = gask M := rfl
theorem ewei_rcnt (M : MS) (v : Int32) : gwei (srcnt M v) = gwei M := rfl
theorem etxt_rcnt (M : MS) (v : Int32) : gtxt (srcnt M v) = gtxt M := rfl
theorem eplc_rcnt (M : MS) (v : Int32) : gplc (srcnt M v) = gplc M := rfl
theorem ecrd_rcnt (M : MS) (v : Int32) : gcrd (srcnt M v) = gcrd M := rfl
theorem ecbk_rcnt (M : MS) (v : Int32) : gcbk (srcnt M v) = gcbk M := rfl
theorem ecsv_rcnt (M : MS) (v : Int32) : gcsv (srcnt M v) = gcsv M := rfl
theorem eiss_rcnt (M : MS) (v : Int32) : giss (srcnt M v) = giss M := rfl
theorem ethr_rlen (M : MS) (v : Int32) : gthr (srlen M v) = gthr M := rfl
theorem ercnt_rlen (M : MS) (v : Int32) : grcnt (srlen M v) = grcnt M := rfl
theorem erlen_rlen (M : MS) (v : Int32) : grlen (srlen M v) = v := rfl
theorem erval_rlen (M : MS) (v : Int32) : grval (srlen M v) = grval M := rfl
theorem ebl_rlen (M : MS) (v : Int32) : gbl (srlen M v) = gbl M := rfl
theorem ebp_rlen (M : MS) (v : Int32) : gbp (srlen M v) = gbp M := rfl
theorem ebdr_rlen (M : MS) (v : Int32) : gbdr (srlen M v) = gbdr M := rfl
theorem ews_rlen (M : MS) (v : Int32) : gws (srlen M v) = gws M := rfl
theorem etl_rlen (M : MS) (v : Int32) : gtl (srlen M v) = gtl M := rfl
theorem epos_rlen (M : MS) (v : Int32) : gpos (srlen M v) = gpos M := rfl
theorem etst_rlen (M : MS) (v : Int32) : gtst (srlen M v) = gtst M := rfl
theorem etok_rlen (M : MS) (v : Int32) : gtok (srlen M v) = gtok M := rfl
theorem elet_rlen (M : MS) (v : Int32) : glet (srlen M v) = glet M := rfl
theorem enum_rlen (M : MS) (v : Int32) : gnum (srlen M v) = gnum M := rfl
theorem eec_rlen (M : MS) (v : Int32) : gec (srlen M v) = gec M := rfl
theorem eep_rlen (M : MS) (v : Int32) : gep (srlen M v) = gep M := rfl
theorem ewrd_rlen (M : MS) (v : Int32) : gwrd (srlen M v) = gwrd M := rfl
theorem ebrd_rlen (M : MS) (v : Int32) : gbrd (srlen M v) = gbrd M := rfl
theorem ebak_rlen (M : MS) (v : Int32) : gbak (srlen M v) = gbak M := rfl
theorem esav_rlen (M : MS) (v : Int32) : gsav (srlen M v) = gsav M := rfl
theorem erow_rlen (M : MS) (v : Int32) : grow (srlen M v) = grow M := rfl
theorem earr_rlen (M : MS) (v : Int32) : garr (srlen M v) = garr M := rfl
theorem esol_rlen (M : MS) (v : Int32) : gsol (srlen M v) = gsol M := rfl
theorem ehol_rlen (M : MS) (v : Int32) : ghol (srlen M v) = ghol M := rfl
theorem eask_rlen (M : MS) (v : Int32) : gask (srlen M v) = gask M := rfl
theorem ewei_rlen (M : MS) (v : Int32) : gwei (srlen M v) = gwei M := rfl
theorem etxt_rlen (M : MS) (v : Int32) : gtxt (srlen M v) = gtxt M := rfl
theorem eplc_rlen (M : MS) (v : Int32) : gplc (srlen M v) = gplc M := rfl
theorem ecrd_rlen (M : MS) (v : Int32) : gcrd (srlen M v) = gcrd M := rfl
theorem ecbk_rlen (M : MS) (v : Int32) : gcbk (srlen M v) = gcbk M := rfl
theorem ecsv_rlen (M : MS) (v : Int32) : gcsv (srlen M v) = gcsv M := rfl
theorem eiss_rlen (M : MS) (v : Int32) : giss (srlen M v) = giss M := rfl
theorem ethr_rval (M : MS) (v : Int32) : gthr (srval M v) = gthr M := rfl
theorem ercnt_rval (M : MS) (v : Int32) : grcnt (srval M v) = grcnt M := rfl
theorem erlen_rval (M : MS) (v : Int32) : grlen (srval M v) = grlen M := rfl
theorem erval_rval (M : MS) (v : Int32) : grval (srval M v) = v := rfl
theorem ebl_rval (M : MS) (v : Int32) : gbl (srval M v) = gbl M := rfl
theorem ebp_rval (M : MS) (v : Int32) : gbp (srval M v) = gbp M := rfl
theorem ebdr_rval (M : MS) (v : Int32) : gbdr (srval M v) = gbdr M := rfl
theorem ews_rval (M : MS) (v : Int32) : gws (srval M v) = gws M := rfl
theorem etl_rval (M : MS) (v : Int32) : gtl (srval M v) = gtl M := rfl
theorem epos_rval (M : MS) (v : Int32) : gpos (srval M v) = gpos M := rfl
theorem etst_rval (M : MS) (v : Int32) : gtst (srval M v) = gtst M := rfl
theorem etok_rval (M : MS) (v : Int32) : gtok (srval M v) = gtok M := rfl
theorem elet_rval (M : MS) (v : Int32) : glet (srval M v) = glet M := rfl
theorem enum_rval (M : MS) (v : Int32) : gnum (srval M v) = gnum M := rfl
theorem eec_rval (M : MS) (v : Int32) : gec (srval M v) = gec M := rfl
theorem eep_rval (M : MS) (v : Int32) : gep (srval M v) = gep M := rfl
theorem ewrd_rval (M : MS) (v : Int32) : gwrd (srval M v) = gwrd M := rfl
theorem ebrd_rval (M : MS) (v : Int32) : gbrd (srval M v) = gbrd M := rfl
theorem ebak_rval (M : MS) (v : Int32) : gbak (srval M v) = gbak M := rfl
theorem esav_rval (M : MS) (v : Int32) : gsav (srval M v) = gsav M := rfl
theorem erow_rval (M : MS) (v : Int32) : grow (srval M v) = grow M := rfl
theorem earr_rval (M : MS) (v : Int32) : garr (srval M v) = garr M := rfl
theorem esol_rval (M : MS) (v : Int32) : gsol (srval M v) = gsol M := rfl
theorem ehol_rval (M : MS) (v : Int32) : ghol (srval M v) = ghol M := rfl
theorem eask_rval (M : MS) (v : Int32) : gask (srval M v) = gask M := rfl
theorem ewei_rval (M : MS) (v : Int32) : gwei (srval M v) = gwei M := rfl
theorem etxt_rval (M : MS) (v : Int32) : gtxt (srval M v) = gtxt M := rfl
theorem eplc_rval (M : MS) (v : Int32) : gplc (srval M v) = gplc M := rfl
theorem ecrd_rval (M : MS) (v : Int32) : gcrd (srval M v) = gcrd M := rfl
theorem ecbk_rval (M : MS) (v : Int32) : gcbk (srval M v) = gcbk M := rfl
theorem ecsv_rval (M : MS) (v : Int32) : gcsv (srval M v) = gcsv M := rfl
theorem eiss_rval (M : MS) (v : Int32) : giss (srval M v) = giss M := rfl
theorem ethr_bl (M : MS) (v : Int32) : gthr (sbl M v) = gthr M := rfl
theorem ercnt_bl (M : MS) (v : Int32) : grcnt (sbl M v) = grcnt M := rfl
theorem erlen_bl (M : MS) (v : Int32) : grlen (sbl M v) = grlen M := rfl
theorem erval_bl (M : MS) (v : Int32) : grval (sbl M v) = grval M := rfl
theorem ebl_bl (M : MS) (v : Int32) : gbl (sbl M v) = v := rfl
theorem ebp_bl (M : MS) (v : Int32) : gbp (sbl M v) = gbp M := rfl
theorem ebdr_bl (M : MS) (v : Int32) : gbdr (sbl M v) = gbdr M := rfl
theorem ews_bl (M : MS) (v : Int32) : gws (sbl M v) = gws M := rfl
theorem etl_bl (M : MS) (v : Int32) : gtl (sbl M v) = gtl M := rfl
theorem epos_bl (M : MS) (v : Int32) : gpos (sbl M v) = gpos M := rfl
theorem etst_bl (M : MS) (v : Int32) : gtst (sbl M v) = gtst M := rfl
theorem etok_bl (M : MS) (v : Int32) : gtok (sbl M v) = gtok M := rfl
theorem elet_bl (M : MS) (v : Int32) : glet (sbl M v) = glet M := rfl
theorem enum_bl (M : MS) (v : Int32) : gnum (sbl M v) = gnum M := rfl
theorem eec_bl (M : MS) (v : Int32) : gec (sbl M v) = gec M := rfl
theorem eep_bl (M : MS) (v : Int32) : gep (sbl M v) = gep M := rfl
theorem ewrd_bl (M : MS) (v : Int32) : gwrd (sbl M v) = gwrd M := rfl
theorem ebrd_bl (M : MS) (v : Int32) : gbrd (sbl M v) = gbrd M := rfl
theorem ebak_bl (M : MS) (v : Int32) : gbak (sbl M v) = gbak M := rfl
theorem esav_bl (M : MS) (v : Int32) : gsav (sbl M v) = gsav M := rfl
theorem erow_bl (M : MS) (v : Int32) : grow (sbl M v) = grow M := rfl
theorem earr_bl (M : MS) (v : Int32) : garr (sbl M v) = garr M := rfl
theorem esol_bl (M : MS) (v : Int32) : gsol (sbl M v) = gsol M := rfl
theorem ehol_bl (M : MS) (v : Int32) : ghol (sbl M v) = ghol M := rfl
theorem eask_bl (M : MS) (v : Int32) : gask (sbl M v) = gask M := rfl
theorem ewei_bl (M : MS) (v : Int32) : gwei (sbl M v) = gwei M := rfl
theorem etxt_bl (M : MS) (v : Int32) : gtxt (sbl M v) = gtxt M := rfl
theorem eplc_bl (M : MS) (v : Int32) : gplc (sbl M v) = gplc M := rfl
theorem ecrd_bl (M : MS) (v : Int32) : gcrd (sbl M v) = gcrd M := rfl
theorem ecbk_bl (M : MS) (v : Int32) : gcbk (sbl M v) = gcbk M := rfl
theorem ecsv_bl (M : MS) (v : Int32) : gcsv (sbl M v) = gcsv M := rfl
theorem eiss_bl (M : MS) (v : Int32) : giss (sbl M v) = giss M := rfl
theorem ethr_bp (M : MS) (v : Int32) : gthr (sbp M v) = gthr M := rfl
theorem ercnt_bp (M : MS) (v : Int32) : grcnt (sbp M v) = grcnt M := rfl
theorem erlen_bp (M : MS) (v : Int32) : grlen (sbp M v) = grlen M := rfl
theorem erval_bp (M : MS) (v : Int32) : grval (sbp M v) = grval M := rfl
theorem ebl_bp (M : MS) (v : Int32) : gbl (sbp M v) = gbl M := rfl
theorem ebp_bp (M : MS) (v : Int32) : gbp (sbp M v) = v := rfl
theorem ebdr_bp (M : MS) (v : Int32) : gbdr (sbp M v) = gbdr M := rfl
theorem ews_bp (M : MS) (v : Int32) : gws (sbp M v) = gws M := rfl
theorem etl_bp (M : MS) (v : Int32) : gtl (sbp M v) = gtl M := rfl
theorem epos_bp (M : MS) (v : Int32) : gpos (sbp M v) = gpos M := rfl
theorem etst_bp (M : MS) (v : Int32) : gtst (sbp M v) = gtst M := rfl
theorem etok_bp (M : MS) (v : Int32) : gtok (sbp M v) = gtok M := rfl
theorem elet_bp (M : MS) (v : Int32) : glet (sbp M v) = glet M := rfl
theorem enum_bp (M : MS) (v : Int32) : gnum (sbp M v) = gnum M := rfl
theorem eec_bp (M : MS) (v : Int32) : gec (sbp M v) = gec M := rfl
theorem eep_bp (M : MS) (v : Int32) : gep (sbp M v) = gep M := rfl
theorem ewrd_bp (M : MS) (v : Int32) : gwrd (sbp M v) = gwrd M := rfl
theorem ebrd_bp (M : MS) (v : Int32) : gbrd (sbp M v) = gbrd M := rfl
theorem ebak_bp (M : MS) (v : Int32) : gbak (sbp M v) = gbak M := rfl
theorem esav_bp (M : MS) (v : Int32) : gsav (sbp M v) = gsav M := rfl
theorem erow_bp (M : MS) (v : Int32) : grow (sbp M v) = grow M := rfl
theorem earr_bp (M : MS) (v : Int32) : garr (sbp M v) = garr M := rfl
theorem esol_bp (M : MS) (v : Int32) : gsol (sbp M v) = gsol M := rfl
theorem ehol_bp (M : MS) (v : Int32) : ghol (sbp M v) = ghol M := rfl
theorem eask_bp (M : MS) (v : Int32) : gask (sbp M v) = gask M := rfl
theorem ewei_bp (M : MS) (v : Int32) : gwei (sbp M v) = gwei M := rfl
theorem etxt_bp (M : MS) (v : Int32) : gtxt (sbp M v) = gtxt M := rfl
theorem eplc_bp (M : MS) (v : Int32) : gplc (sbp M v) = gplc M := rfl
theorem ecrd_bp (M : MS) (v : Int32) : gcrd (sbp M v) = gcrd M := rfl
theorem ecbk_bp (M : MS) (v : Int32) : gcbk (sbp M v) = gcbk M := rfl
theorem ecsv_bp (M : MS) (v : Int32) : gcsv (sbp M v) = gcsv M := rfl
theorem eiss_bp (M : MS) (v : Int32) : giss (sbp M v) = giss M := rfl
theorem ethr_bdr (M : MS) (v : Int32) : gthr (sbdr M v) = gthr M := rfl
theorem ercnt_bdr (M : MS) (v : Int32) : grcnt (sbdr M v) = grcnt M := rfl
theorem erlen_bdr (M : MS) (v : Int32) : grlen (sbdr M v) = grlen M := rfl
theorem erval_bdr (M : MS) (v : Int32) : grval (sbdr M v) = grval M := rfl
theorem ebl_bdr (M : MS) (v : Int32) : gbl (sbdr M v) = gbl M := rfl
theorem ebp_bdr (M : MS) (v : Int32) : gbp (sbdr M v) = gbp M := rfl
theorem ebdr_bdr (M : MS) (v : Int32) : gbdr (sbdr M v) = v := rfl
theorem ews_bdr (M : MS) (v : Int32) : gws (sbdr M v) = gws M := rfl
theorem etl_bdr (M : MS) (v : Int32) : gtl (sbdr M v) = gtl M := rfl
theorem epos_bdr (M : MS) (v : Int32) : gpos (sbdr M v) = gpos M := rfl
theorem etst_bdr (M : MS) (v : Int32) : gtst (sbdr M v) = gtst M := rfl
theorem etok_bdr (M : MS) (v : Int32) : gtok (sbdr M v) = gtok M := rfl
theorem elet_bdr (M : MS) (v : Int32) : glet (sbdr M v) = glet M := rfl
theorem enum_bdr (M : MS) (v : Int32) : gnum (sbdr M v) = gnum M := rfl
theorem eec_bdr (M : MS) (v : Int32) : gec (sbdr M v) = gec M := rfl
theorem eep_bdr (M : MS) (v : Int32) : gep (sbdr M v) = gep M := rfl
theorem ewrd_bdr (M : MS) (v : Int32) : gwrd (sbdr M v) = gwrd M := rfl
theorem ebrd_bdr (M : MS) (v : Int32) : gbrd (sbdr M v) = gbrd M := rfl
theorem ebak_bdr (M : MS) (v : Int32) : gbak (sbdr M v) = gbak M := rfl
theorem esav_bdr (M : MS) (v : Int32) : gsav (sbdr M v) = gsav M := rfl
theorem erow_bdr (M : MS) (v : Int32) : grow (sbdr M v) = grow M := rfl
theorem earr_bdr (M : MS) (v : Int32) : garr (sbdr M v) = garr M := rfl
theorem esol_bdr (M : MS) (v : Int32) : gsol (sbdr M v) = gsol M := rfl
theorem ehol_bdr (M : MS) (v : Int32) : ghol (sbdr M v) = ghol M := rfl
theorem eask_bdr (M : MS) (v : Int32) : gask (sbdr M v) = gask M := rfl
theorem ewei_bdr (M : MS) (v : Int32) : gwei (sbdr M v) = gwei M := rfl
theorem etxt_bdr (M : MS) (v : Int32) : gtxt (sbdr M v) = gtxt M := rfl
theorem eplc_bdr (M : MS) (v : Int32) : gplc (sbdr M v) = gplc M := rfl
theorem ecrd_bdr (M : MS) (v : Int32) : gcrd (sbdr M v) = gcrd M := rfl
theorem ecbk_bdr (M : MS) (v : Int32) : gcbk (sbdr M v) = gcbk M := rfl
theorem ecsv_bdr (M : MS) (v : Int32) : gcsv (sbdr M v) = gcsv M := rfl
theorem eiss_bdr (M : MS) (v : Int32) : giss (sbdr M v) = giss M := rfl
theorem ethr_ws (M : MS) (v : Int32) : gthr (sws M v) = gthr M := rfl
theorem ercnt_ws (M : MS) (v : Int32) : grcnt (sws M v) = grcnt M := rfl
theorem erlen_ws (M : MS) (v : Int32) : grlen (sws M v) = grlen M := rfl
theorem erval_ws (M : MS) (v : Int32) : grval (sws M v) = grval M := rfl
theorem ebl_ws (M : MS) (v : Int32) : gbl (sws M v) = gbl M := rfl
theorem ebp_ws (M : MS) (v : Int32) : gbp (sws M v) = gbp M := rfl
theorem ebdr_ws (M : MS) (v : Int32) : gbdr (sws M v) = gbdr M := rfl
theorem ews_ws (M : MS) (v : Int32) : gws (sws M v) = v := rfl
theorem etl_ws (M : MS) (v : Int32) : gtl (sws M v) = gtl M := rfl
theorem epos_ws (M : MS) (v : Int32) : gpos (sws M v) = gpos M := rfl
theorem etst_ws (M : MS) (v : Int32) : gtst (sws M v) = gtst M := rfl
theorem etok_ws (M : MS) (v : Int32) : gtok (sws M v) = gtok M := rfl
theorem elet_ws (M : MS) (v : Int32) : glet (sws M v) = glet M := rfl
theorem enum_ws (M : MS) (v : Int32) : gnum (sws M v) = gnum M := rfl
theorem eec_ws (M : MS) (v : Int32) : gec (sws M v) = gec M := rfl
theorem eep_ws (M : MS) (v : Int32) : gep (sws M v) = gep M := rfl
theorem ewrd_ws (M : MS) (v : Int32) : gwrd (sws M v) = gwrd M := rfl
theorem ebrd_ws (M : MS) (v : Int32) : gbrd (sws M v) = gbrd M := rfl
theorem ebak_ws (M : MS) (v : Int32) : gbak (sws M v) = gbak M := rfl
theorem esav_ws (M : MS) (v : Int32) : gsav (sws M v) = gsav M := rfl
theorem erow_ws (M : MS) (v : Int32) : grow (sws M v) = grow M := rfl
theorem earr_ws (M : MS) (v : Int32) : garr (sws M v) = garr M := rfl
theorem esol_ws (M : MS) (v : Int32) : gsol (sws M v) = gsol M := rfl
theorem ehol_ws (M : MS) (v : Int32) : ghol (sws M v) = ghol M := rfl
theorem eask_ws (M : MS) (v : Int32) : gask (sws M v) = gask M := rfl
theorem ewei_ws (M : MS) (v : Int32) : gwei (sws M v) = gwei M := rfl
theorem etxt_ws (M : MS) (v : Int32) : gtxt (sws M v) = gtxt M := rfl
theorem eplc_ws (M : MS) (v : Int32) : gplc (sws M v) = gplc M := rfl
theorem ecrd_ws (M : MS) (v : Int32) : gcrd (sws M v) = gcrd M := rfl
theorem ecbk_ws (M : MS) (v : Int32) : gcbk (sws M v) = gcbk M := rfl
theorem ecsv_ws (M : MS) (v : Int32) : gcsv (sws M v) = gcsv M := rfl
theorem eiss_ws (M : MS) (v : Int32) : giss (sws M v) = giss M := rfl
theorem ethr_tl (M : MS) (v : Int32) : gthr (stl M v) = gthr M := rfl
theorem ercnt_tl (M : MS) (v : Int32) : grcnt (stl M v) = grcnt M := rfl
theorem erlen_tl (M : MS) (v : Int32) : grlen (stl M v) = grlen M := rfl
theorem erval_tl (M : MS) (v : Int32) : grval (stl M v) = grval M := rfl
theorem ebl_tl (M : MS) (v : Int32) : gbl (stl M v) = gbl M := rfl
theorem ebp_tl (M : MS) (v : Int32) : gbp (stl M v) = gbp M := rfl
theorem ebdr_tl (M : MS) (v : Int32) : gbdr (stl M v) = gbdr M := rfl
theorem ews_tl (M : MS) (v : Int32) : gws (stl M v) = gws M := rfl
theorem etl_tl (M : MS) (v : Int32) : gtl (stl M v) = v := rfl
theorem epos_tl (M : MS) (v : Int32) : gpos (stl M v) = gpos M := rfl
theorem etst_tl (M : MS) (v : Int32) : gtst (stl M v) = gtst M := rfl
theorem etok_tl (M : MS) (v : Int32) : gtok (stl M v) = gtok M := rfl
theorem elet_tl (M : MS) (v : Int32) : glet (stl M v) = glet M := rfl
theorem enum_tl (M : MS) (v : Int32) : gnum (stl M v) = gnum M := rfl
theorem eec_tl (M : MS) (v : Int32) : gec (stl M v) = gec M := rfl
theorem eep_tl (M : MS) (v : Int32) : gep (stl M v) = gep M := rfl
theorem ewrd_tl (M : MS) (v : Int32) : gwrd (stl M v) = gwrd M := rfl
theorem ebrd_tl (M : MS) (v : Int32) : gbrd (stl M v) = gbrd M := rfl
theorem ebak_tl (M : MS) (v : Int32) : gbak (stl M v) = gbak M := rfl
theorem esav_tl (M : MS) (v : Int32) : gsav (stl M v) = gsav M := rfl
theorem erow_tl (M : MS) (v : Int32) : grow (stl M v) = grow M := rfl
theorem earr_tl (M : MS) (v : Int32) : garr (stl M v) = garr M := rfl
theorem esol_tl (M : MS) (v : Int32) : gsol (stl M v) = gsol M := rfl
theorem ehol_tl (M : MS) (v : Int32) : ghol (stl M v) = ghol M := rfl
theorem eask_tl (M : MS) (v : Int32) : gask (stl M v) = gask M := rfl
theorem ewei_tl (M : MS) (v : Int32) : gwei (stl M v) = gwei M := rfl
theorem etxt_tl (M : MS) (v : Int32) : gtxt (stl M v) = gtxt M := rfl
theorem eplc_tl (M : MS) (v : Int32) : gplc (stl M v) = gplc M := rfl
theorem ecrd_tl (M : MS) (v : Int32) : gcrd (stl M v) = gcrd M := rfl
theorem ecbk_tl (M : MS) (v : Int32) : gcbk (stl M v) = gcbk M := rfl
theorem ecsv_tl (M : MS) (v : Int32) : gcsv (stl M v) = gcsv M := rfl
theorem eiss_tl (M : MS) (v : Int32) : giss (stl M v) = giss M := rfl
theorem ethr_pos (M : MS) (v : Int32) : gthr (spos M v) = gthr M := rfl
theorem ercnt_pos (M : MS) (v : Int32) : grcnt (spos M v) = grcnt M := rfl
theorem erlen_pos (M : MS) (v : Int32) : grlen (spos M v) = grlen M := rfl
theorem erval_pos (M : MS) (v : Int32) : grval (spos M v) = grval M := rfl
theorem ebl_pos (M : MS) (v : Int32) : gbl (spos M v) = gbl M := rfl
theorem ebp_pos (M : MS) (v : Int32) : gbp (spos M v) = gbp M := rfl
theorem ebdr_pos (M : MS) (v : Int32) : gbdr (spos M v) = gbdr M := rfl
theorem ews_pos (M : MS) (v : Int32) : gws (spos M v) = gws M := rfl
theorem etl_pos (M : MS) (v : Int32) : gtl (spos M v) = gtl M := rfl
theorem epos_pos (M : MS) (v : Int32) : gpos (spos M v) = v := rfl
theorem etst_pos (M : MS) (v : Int32) : gtst (spos M v) = gtst M := rfl
theorem etok_pos (M : MS) (v : Int32) : gtok (spos M v) = gtok M := rfl
theorem elet_pos (M : MS) (v : Int32) : glet (spos M v) = glet M := rfl
theorem enum_pos (M : MS) (v : Int32) : gnum (spos M v) = gnum M := rfl
theorem eec_pos (M : MS) (v : Int32) : gec (spos M v) = gec M := rfl
theorem eep_pos (M : MS) (v : Int32) : gep (spos M v) = gep M := rfl
theorem ewrd_pos (M : MS) (v : Int32) : gwrd (spos M v) = gwrd M := rfl
theorem ebrd_pos (M : MS) (v : Int32) : gbrd (spos M v) = gbrd M := rfl
theorem ebak_pos (M : MS) (v : Int32) : gbak (spos M v) = gbak M := rfl
theorem esav_pos (M : MS) (v : Int32) : gsav (spos M v) = gsav M := rfl
theorem erow_pos (M : MS) (v : Int32) : grow (spos M v) = grow M := rfl
theorem earr_pos (M : MS) (v : Int32) : garr (spos M v) = garr M := rfl
theorem esol_pos (M : MS) (v : Int32) : gsol (spos M v) = gsol M := rfl
theorem ehol_pos (M : MS) (v : Int32) : ghol (spos M v) = ghol M := rfl
theorem eask_pos (M : MS) (v : Int32) : gask (spos M v) = gask M := rfl
theorem ewei_pos (M : MS) (v : Int32) : gwei (spos M v) = gwei M := rfl
theorem etxt_pos (M : MS) (v : Int32) : gtxt (spos M v) = gtxt M := rfl
theorem eplc_pos (M : MS) (v : Int32) : gplc (spos M v) = gplc M := rfl
theorem ecrd_pos (M : MS) (v : Int32) : gcrd (spos M v) = gcrd M := rfl
theorem ecbk_pos (M : MS) (v : Int32) : gcbk (spos M v) = gcbk M := rfl
theorem ecsv_pos (M : MS) (v : Int32) : gcsv (spos M v) = gcsv M := rfl
theorem eiss_pos (M : MS) (v : Int32) : giss (spos M v) = giss M := rfl
theorem ethr_tst (M : MS) (v : Int32) : gthr (stst M v) = gthr M := rfl
theorem ercnt_tst (M : MS) (v : Int32) : grcnt (stst M v) = grcnt M := rfl
theorem erlen_tst (M : MS) (v : Int32) : grlen (stst M v) = grlen M := rfl
theorem erval_tst (M : MS) (v : Int32) : grval (stst M v) = grval M := rfl
theorem ebl_tst (M : MS) (v : Int32) : gbl (stst M v) = gbl M := rfl
theorem ebp_tst (M : MS) (v : Int32) : gbp (stst M v) = gbp M := rfl
theorem ebdr_tst (M : MS) (v : Int32) : gbdr (stst M v) = gbdr M := rfl
theorem ews_tst (M : MS) (v : Int32) : gws (stst M v) = gws M := rfl
theorem etl_tst (M : MS) (v : Int32) : gtl (stst M v) = gtl M := rfl
theorem epos_tst (M : MS) (v : Int32) : gpos (stst M v) = gpos M := rfl
theorem etst_tst (M : MS) (v : Int32) : gtst (stst M v) = v := rfl
theorem etok_tst (M : MS) (v : Int32) : gtok (stst M v) = gtok M := rfl
theorem elet_tst (M : MS) (v : Int32) : glet (stst M v) = glet M := rfl
theorem enum_tst (M : MS) (v : Int32) : gnum (stst M v) = gnum M := rfl
theorem eec_tst (M : MS) (v : Int32) : gec (stst M v) = gec M := rfl
theorem eep_tst (M : MS) (v : Int32) : gep (stst M v) = gep M := rfl
theorem ewrd_tst (M : MS) (v : Int32) : gwrd (stst M v) = gwrd M := rfl
theorem ebrd_tst (M : MS) (v : Int32) : gbrd (stst M v) = gbrd M := rfl
theorem ebak_tst (M : MS) (v : Int32) : gbak (stst M v) = gbak M := rfl
theorem esav_tst (M : MS) (v : Int32) : gsav (stst M v) = gsav M := rfl
theorem erow_tst (M : MS) (v : Int32) : grow (stst M v) = grow M := rfl
theorem earr_tst (M : MS) (v : Int32) : garr (stst M v) = garr M := rfl
theorem esol_tst (M : MS) (v : Int32) : gsol (stst M v) = gsol M := rfl
theorem ehol_tst (M : MS) (v : Int32) : ghol (stst M v) = ghol M := rfl
theorem eask_tst (M : MS) (v : Int32) : gask (stst M v) = gask M := rfl
theorem ewei_tst (M : MS) (v : Int32) : gwei (stst M v) = gwei M := rfl
theorem etxt_tst (M : MS) (v : Int32) : gtxt (stst M v) = gtxt M := rfl
theorem eplc_tst (M : MS) (v : Int32) : gplc (stst M v) = gplc M := rfl
theorem ecrd_tst (M : MS) (v : Int32) : gcrd (stst M v) = gcrd M := rfl
theorem ecbk_tst (M : MS) (v : Int32) : gcbk (stst M v) = gcbk M := rfl
theorem ecsv_tst (M : MS) (v : Int32) : gcsv (stst M v) = gcsv M := rfl
theorem eiss_tst (M : MS) (v : Int32) : giss (stst M v) = giss M := rfl
theorem ethr_tok (M : MS) (v : Int32) : gthr (stok M v) = gthr M := rfl
theorem ercnt_tok (M : MS) (v : Int32) : grcnt (stok M v) = grcnt M := rfl
theorem erlen_tok (M : MS) (v : Int32) : grlen (stok M v) = grlen M := rfl
theorem erval_tok (M : MS) (v : Int32) : grval (stok M v) = grval M := rfl
theorem ebl_tok (M : MS) (v : Int32) : gbl (stok M v) = gbl M := rfl
theorem ebp_tok (M : MS) (v : Int32) : gbp (stok M v) = gbp M := rfl
theorem ebdr_tok (M : MS) (v : Int32) : gbdr (stok M v) = gbdr M := rfl
theorem ews_tok (M : MS) (v : Int32) : gws (stok M v) = gws M := rfl
theorem etl_tok (M : MS) (v : Int32) : gtl (stok M v) = gtl M := rfl
theorem epos_tok (M : MS) (v : Int32) : gpos (stok M v) = gpos M := rfl
theorem etst_tok (M : MS) (v : Int32) : gtst (stok M v) = gtst M := rfl
theorem etok_tok (M : MS) (v : Int32) : gtok (stok M v) = v := rfl
theorem elet_tok (M : MS) (v : Int32) : glet (stok M v) = glet M := rfl
theorem enum_tok (M : MS) (v : Int32) : gnum (stok M v) = gnum M := rfl
theorem eec_tok (M : MS) (v : Int32) : gec (stok M v) = gec M := rfl
theorem eep_tok (M : MS) (v : Int32) : gep (stok M v) = gep M := rfl
theorem ewrd_tok (M : MS) (v : Int32) : gwrd (stok M v) = gwrd M := rfl
theorem ebrd_tok (M : MS) (v : Int32) : gbrd (stok M v) = gbrd M := rfl
theorem ebak_tok (M : MS) (v : Int32) : gbak (stok M v) = gbak M := rfl
theorem esav_tok (M : MS) (v : Int32) : gsav (stok M v) = gsav M := rfl
theorem erow_tok (M : MS) (v : Int32) : grow (stok M v) = grow M := rfl
theorem earr_tok (M : MS) (v : Int32) : garr (stok M v) = garr M := rfl
theorem esol_tok (M : MS) (v : Int32) : gsol (stok M v) = gsol M := rfl
theorem ehol_tok (M : MS) (v : Int32) : ghol (stok M v) = ghol M := rfl
theorem eask_tok (M : MS) (v : Int32) : gask (stok M v) = gask M := rfl
theorem ewei_tok (M : MS) (v : Int32) : gwei (stok M v) = gwei M := rfl
theorem etxt_tok (M : MS) (v : Int32) : gtxt (stok M v) = gtxt M := rfl
theorem eplc_tok (M : MS) (v : Int32) : gplc (stok M v) = gplc M := rfl
theorem ecrd_tok (M : MS) (v : Int32) : gcrd (stok M v) = gcrd M := rfl
theorem ecbk_tok (M : MS) (v : Int32) : gcbk (stok M v) = gcbk M := rfl
theorem ecsv_tok (M : MS) (v : Int32) : gcsv (stok M v) = gcsv M := rfl
theorem eiss_tok (M : MS) (v : Int32) : giss (stok M v) = giss M := rfl
theorem ethr_let (M : MS) (v : Int32) : gthr (slet M v) = gthr M := rfl
theorem ercnt_let (M : MS) (v : Int32) : grcnt (slet M v) = grcnt M := rfl
theorem erlen_let (M : MS) (v : Int32) : grlen (slet M v) = grlen M := rfl
theorem erval_let (M : MS) (v : Int32) : grval (slet M v) = grval M := rfl
theorem ebl_let (M : MS) (v : Int32) : gbl (slet M v) = gbl M := rfl
theorem ebp_let (M : MS) (v : Int32) : gbp (slet M v) = gbp M := rfl
theorem ebdr_let (M : MS) (v : Int32) : gbdr (slet M v) = gbdr M := rfl
theorem ews_let (M : MS) (v : Int32) : gws (slet M v) = gws M := rfl
theorem etl_let (M : MS) (v : Int32) : gtl (slet M v) = gtl M := rfl
theorem epos_let (M : MS) (v : Int32) : gpos (slet M v) = gpos M := rfl
theorem etst_let (M : MS) (v : Int32) : gtst (slet M v) = gtst M := rfl
theorem etok_let (M : MS) (v : Int32) : gtok (slet M v) = gtok M := rfl
theorem elet_let (M : MS) (v : Int32) : glet (slet M v) = v := rfl
theorem enum_let (M : MS) (v : Int32) : gnum (slet M v) = gnum M := rfl
theorem eec_let (M : MS) (v : Int32) : gec (slet M v) = gec M := rfl
theorem eep_let (M : MS) (v : Int32) : gep (slet M v) = gep M := rfl
theorem ewrd_let (M : MS) (v : Int32) : gwrd (slet M v) = gwrd M := rfl
theorem ebrd_let (M : MS) (v : Int32) : gbrd (slet M v) = gbrd M := rfl
theorem ebak_let (M : MS) (v : Int32) : gbak (slet M v) = gbak M := rfl
theorem esav_let (M : MS) (v : Int32) : gsav (slet M v) = gsav M := rfl
theorem erow_let (M : MS) (v : Int32) : grow (slet M v) = grow M := rfl
theorem earr_let (M : MS) (v : Int32) : garr (slet M v) = garr M := rfl
theorem esol_let (M : MS) (v : Int32) : gsol (slet M v) = gsol M := rfl
theorem ehol_let (M : MS) (v : Int32) : ghol (slet M v) = ghol M := rfl
theorem eask_let (M : MS) (v : Int32) : gask (slet M v) = gask M := rfl
theorem ewei_let (M : MS) (v : Int32) : gwei (slet M v) = gwei M := rfl
theorem etxt_let (M : MS) (v : Int32) : gtxt (slet M v) = gtxt M := rfl
theorem eplc_let (M : MS) (v : Int32) : gplc (slet M v) = gplc M := rfl
theorem ecrd_let (M : MS) (v : Int32) : gcrd (slet M v) = gcrd M := rfl
theorem ecbk_let (M : MS) (v : Int32) : gcbk (slet M v) = gcbk M := rfl
theorem ecsv_let (M : MS) (v : Int32) : gcsv (slet M v) = gcsv M := rfl
theorem eiss_let (M : MS) (v : Int32) : giss (slet M v) = giss M := rfl
theorem ethr_num (M : MS) (v : Int32) : gthr (snum M v) = gthr M := rfl
theorem ercnt_num (M : MS) (v : Int32) : grcnt (snum M v) = grcnt M := rfl
theorem erlen_num (M : MS) (v : Int32) : grlen (snum M v) = grlen M := rfl
theorem erval_num (M : MS) (v : Int32) : grval (snum M v) = grval M := rfl
theorem ebl_num (M : MS) (v : Int32) : gbl (snum M v) = gbl M := rfl
theorem ebp_num (M : MS) (v : Int32) : gbp (snum M v) = gbp M := rfl
theorem ebdr_num (M : MS) (v : Int32) : gbdr (snum M v) = gbdr M := rfl
theorem ews_num (M : MS) (v : Int32) : gws (snum M v) = gws M := rfl
theorem etl_num (M : MS) (v : Int32) : gtl (snum M v) = gtl M := rfl
theorem epos_num (M : MS) (v : Int32) : gpos (snum M v) = gpos M := rfl
theorem etst_num (M : MS) (v : Int32) : gtst (snum M v) = gtst M := rfl
theorem etok_num (M : MS) (v : Int32) : gtok (snum M v) = gtok M := rfl
theorem elet_num (M : MS) (v : Int32) : glet (snum M v) = glet M := rfl
theorem enum_num (M : MS) (v : Int32) : gnum (snum M v) = v := rfl
theorem eec_num (M : MS) (v : Int32) : gec (snum M v) = gec M := rfl
theorem eep_num (M : MS) (v : Int32) : gep (snum M v) = gep M := rfl
theorem ewrd_num (M : MS) (v : Int32) : gwrd (snum M v) = gwrd M := rfl
theorem ebrd_num (M : MS) (v : Int32) : gbrd (snum M v) = gbrd M := rfl
theorem ebak_num (M : MS) (v : Int32) : gbak (snum M v) = gbak M := rfl
theorem esav_num (M : MS) (v : Int32) : gsav (snum M v) = gsav M := rfl
theorem erow_num (M : MS) (v : Int32) : grow (snum M v) = grow M := rfl
theorem earr_num (M : MS) (v : Int32) : garr (snum M v) = garr M := rfl
theorem esol_num (M : MS) (v : Int32) : gsol (snum M v) = gsol M := rfl
theorem ehol_num (M : MS) (v : Int32) : ghol (snum M v) = ghol M := rfl
theorem eask_num (M : MS) (v : Int32) : gask (snum M v) = gask M := rfl
theorem ewei_num (M : MS) (v : Int32) : gwei (snum M v) = gwei M := rfl
theorem etxt_num (M : MS) (v : Int32) : gtxt (snum M v) = gtxt M := rfl
theorem eplc_num (M : MS) (v : Int32) : gplc (snum M v) = gplc M := rfl
theorem ecrd_num (M : MS) (v : Int32) : gcrd (snum M v) = gcrd M := rfl
theorem ecbk_num (M : MS) (v : Int32) : gcbk (snum M v) = gcbk M := rfl
theorem ecsv_num (M : MS) (v : Int32) : gcsv (snum M v) = gcsv M := rfl
theorem eiss_num (M : MS) (v : Int32) : giss (snum M v) = giss M := rfl
theorem ethr_ec (M : MS) (v : Int32) : gthr (sec M v) = gthr M := rfl
theorem ercnt_ec (M : MS) (v : Int32) : grcnt (sec M v) = grcnt M := rfl
theorem erlen_ec (M : MS) (v : Int32) : grlen (sec M v) = grlen M := rfl
theorem erval_ec (M : MS) (v : Int32) : grval (sec M v) = grval M := rfl
theorem ebl_ec (M : MS) (v : Int32) : gbl (sec M v) = gbl M := rfl
theorem ebp_ec (M : MS) (v : Int32) : gbp (sec M v) = gbp M := rfl
theorem ebdr_ec (M : MS) (v : Int32) : gbdr (sec M v) = gbdr M := rfl
theorem ews_ec (M : MS) (v : Int32) : gws (sec M v) = gws M := rfl
theorem etl_ec (M : MS) (v : Int32) : gtl (sec M v) = gtl M := rfl
theorem epos_ec (M : MS) (v : Int32) : gpos (sec M v) = gpos M := rfl
theorem etst_ec (M : MS) (v : Int32) : gtst (sec M v) = gtst M := rfl
theorem etok_ec (M : MS) (v : Int32) : gtok (sec M v) = gtok M := rfl
theorem elet_ec (M : MS) (v : Int32) : glet (sec M v) = glet M := rfl
theorem enum_ec (M : MS) (v : Int32) : gnum (sec M v) = gnum M := rfl
theorem eec_ec (M : MS) (v : Int32) : gec (sec M v) = v := rfl
theorem eep_ec (M : MS) (v : Int32) : gep (sec M v) = gep M := rfl
theorem ewrd_ec (M : MS) (v : Int32) : gwrd (sec M v) = gwrd M := rfl
theorem ebrd_ec (M : MS) (v : Int32) : gbrd (sec M v) = gbrd M := rfl
theorem ebak_ec (M : MS) (v : Int32) : gbak (sec M v) = gbak M := rfl
theorem esav_ec (M : MS) (v : Int32) : gsav (sec M v) = gsav M := rfl
theorem erow_ec (M : MS) (v : Int32) : grow (sec M v) = grow M := rfl
theorem earr_ec (M : MS) (v : Int32) : garr (sec M v) = garr M := rfl
theorem esol_ec (M : MS) (v : Int32) : gsol (sec M v) = gsol M := rfl
theorem ehol_ec (M : MS) (v : Int32) : ghol (sec M v) = ghol M := rfl
theorem eask_ec (M : MS) (v : Int32) : gask (sec M v) = gask M := rfl
theorem ewei_ec (M : MS) (v : Int32) : gwei (sec M v) = gwei M := rfl
theorem etxt_ec (M : MS) (v : Int32) : gtxt (sec M v) = gtxt M := rfl
theorem eplc_ec (M : MS) (v : Int32) : gplc (sec M v) = gplc M := rfl
theorem ecrd_ec (M : MS) (v : Int32) : gcrd (sec M v) = gcrd M := rfl
theorem ecbk_ec (M : MS) (v : Int32) : gcbk (sec M v) = gcbk M := rfl
theorem ecsv_ec (M : MS) (v : Int32) : gcsv (sec M v) = gcsv M := rfl
theorem eiss_ec (M : MS) (v : Int32) : giss (sec M v) = giss M := rfl
theorem ethr_ep (M : MS) (v : Int32) : gthr (sep M v) = gthr M := rfl
theorem ercnt_ep (M : MS) (v : Int32) : grcnt (sep M v) = grcnt M := rfl
theorem erlen_ep (M : MS) (v : Int32) : grlen (sep M v) = grlen M := rfl
theorem erval_ep (M : MS) (v : Int32) : grval (sep M v) = grval M := rfl
theorem ebl_ep (M : MS) (v : Int32) : gbl (sep M v) = gbl M := rfl
theorem ebp_ep (M : MS) (v : Int32) : gbp (sep M v) = gbp M := rfl
theorem ebdr_ep (M : MS) (v : Int32) : gbdr (sep M v) = gbdr M := rfl
theorem ews_ep (M : MS) (v : Int32) : gws (sep M v) = gws M := rfl
theorem etl_ep (M : MS) (v : Int32) : gtl (sep M v) = gtl M := rfl
theorem epos_ep (M : MS) (v : Int32) : gpos (sep M v) = gpos M := rfl
theorem etst_ep (M : MS) (v : Int32) : gtst (sep M v) = gtst M := rfl
theorem etok_ep (M : MS) (v : Int32) : gtok (sep M v) = gtok M := rfl
theorem elet_ep (M : MS) (v : Int32) : glet (sep M v) = glet M := rfl
theorem enum_ep (M : MS) (v : Int32) : gnum (sep M v) = gnum M := rfl
theorem eec_ep (M : MS) (v : Int32) : gec (sep M v) = gec M := rfl
theorem eep_ep (M : MS) (v : Int32) : gep (sep M v) = v := rfl
theorem ewrd_ep (M : MS) (v : Int32) : gwrd (sep M v) = gwrd M := rfl
theorem ebrd_ep (M : MS) (v : Int32) : gbrd (sep M v) = gbrd M := rfl
theorem ebak_ep (M : MS) (v : Int32) : gbak (sep M v) = gbak M := rfl
theorem esav_ep (M : MS) (v : Int32) : gsav (sep M v) = gsav M := rfl
theorem erow_ep (M : MS) (v : Int32) : grow (sep M v) = grow M := rfl
theorem earr_ep (M : MS) (v : Int32) : garr (sep M v) = garr M := rfl
theorem esol_ep (M : MS) (v : Int32) : gsol (sep M v) = gsol M := rfl
theorem ehol_ep (M : MS) (v : Int32) : ghol (sep M v) = ghol M := rfl
theorem eask_ep (M : MS) (v : Int32) : gask (sep M v) = gask M := rfl
theorem ewei_ep (M : MS) (v : Int32) : gwei (sep M v) = gwei M := rfl
theorem etxt_ep (M : MS) (v : Int32) : gtxt (sep M v) = gtxt M := rfl
theorem eplc_ep (M : MS) (v : Int32) : gplc (sep M v) = gplc M := rfl
theorem ecrd_ep (M : MS) (v : Int32) : gcrd (sep M v) = gcrd M := rfl
theorem ecbk_ep (M : MS) (v : Int32) : gcbk (sep M v) = gcbk M := rfl
theorem ecsv_ep (M : MS) (v : Int32) : gcsv (sep M v) = gcsv M := rfl
theorem eiss_ep (M : MS) (v : Int32) : giss (sep M v) = giss M := rfl
theorem ethr_wrd (M : MS) (v : Int64) : gthr (swrd M v) = gthr M := rfl
theorem ercnt_wrd (M : MS) (v : Int64) : grcnt (swrd M v) = grcnt M := rfl
theorem erlen_wrd (M : MS) (v : Int64) : grlen (swrd M v) = grlen M := rfl
theorem erval_wrd (M : MS) (v : Int64) : grval (swrd M v) = grval M := rfl
theorem ebl_wrd (M : MS) (v : Int64) : gbl (swrd M v) = gbl M := rfl
theorem ebp_wrd (M : MS) (v : Int64) : gbp (swrd M v) = gbp M := rfl
theorem ebdr_wrd (M : MS) (v : Int64) : gbdr (swrd M v) = gbdr M := rfl
theorem ews_wrd (M : MS) (v : Int64) : gws (swrd M v) = gws M := rfl
theorem etl_wrd (M : MS) (v : Int64) : gtl (swrd M v) = gtl M := rfl
theorem epos_wrd (M : MS) (v : Int64) : gpos (swrd M v) = gpos M := rfl
theorem etst_wrd (M : MS) (v : Int64) : gtst (swrd M v) = gtst M := rfl
theorem etok_wrd (M : MS) (v : Int64) : gtok (swrd M v) = gtok M := rfl
theorem elet_wrd (M : MS) (v : Int64) : glet (swrd M v) = glet M := rfl
theorem enum_wrd (M : MS) (v : Int64) : gnum (swrd M v) = gnum M := rfl
theorem eec_wrd (M : MS) (v : Int64) : gec (swrd M v) = gec M := rfl
theorem eep_wrd (M : MS) (v : Int64) : gep (swrd M v) = gep M := rfl
theorem ewrd_wrd (M : MS) (v : Int64) : gwrd (swrd M v) = v := rfl
theorem ebrd_wrd (M : MS) (v : Int64) : gbrd (swrd M v) = gbrd M := rfl
theorem ebak_wrd (M : MS) (v : Int64) : gbak (swrd M v) = gbak M := rfl
theorem esav_wrd (M : MS) (v : Int64) : gsav (swrd M v) = gsav M := rfl
theorem erow_wrd (M : MS) (v : Int64) : grow (swrd M v) = grow M := rfl
theorem earr_wrd (M : MS) (v : Int64) : garr (swrd M v) = garr M := rfl
theorem esol_wrd (M : MS) (v : Int64) : gsol (swrd M v) = gsol M := rfl
theorem ehol_wrd (M : MS) (v : Int64) : ghol (swrd M v) = ghol M := rfl
theorem eask_wrd (M : MS) (v : Int64) : gask (swrd M v) = gask M := rfl
theorem ewei_wrd (M : MS) (v : Int64) : gwei (swrd M v) = gwei M := rfl
theorem etxt_wrd (M : MS) (v : Int64) : gtxt (swrd M v) = gtxt M := rfl
theorem eplc_wrd (M : MS) (v : Int64) : gplc (swrd M v) = gplc M := rfl
theorem ecrd_wrd (M : MS) (v : Int64) : gcrd (swrd M v) = gcrd M := rfl
theorem ecbk_wrd (M : MS) (v : Int64) : gcbk (swrd M v) = gcbk M := rfl
theorem ecsv_wrd (M : MS) (v : Int64) : gcsv (swrd M v) = gcsv M := rfl
theorem eiss_wrd (M : MS) (v : Int64) : giss (swrd M v) = giss M := rfl
theorem ethr_brd (M : MS) (v : Nat → Int32) : gthr (sbrd M v) = gthr M := rfl
theorem ercnt_brd (M : MS) (v : Nat → Int32) : grcnt (sbrd M v) = grcnt M := rfl
theorem erlen_brd (M : MS) (v : Nat → Int32) : grlen (sbrd M v) = grlen M := rfl
theorem erval_brd (M : MS) (v : Nat → Int32) : grval (sbrd M v) = grval M := rfl
theorem ebl_brd (M : MS) (v : Nat → Int32) : gbl (sbrd M v) = gbl M := rfl
theorem ebp_brd (M : MS) (v : Nat → Int32) : gbp (sbrd M v) = gbp M := rfl
theorem ebdr_brd (M : MS) (v : Nat → Int32) : gbdr (sbrd M v) = gbdr M := rfl
theorem ews_brd (M : MS) (v : Nat → Int32) : gws (sbrd M v) = gws M := rfl
theorem etl_brd (M : MS) (v : Nat → Int32) : gtl (sbrd M v) = gtl M := rfl
theorem epos_brd (M : MS) (v : Nat → Int32) : gpos (sbrd M v) = gpos M := rfl
theorem etst_brd (M : MS) (v : Nat → Int32) : gtst (sbrd M v) = gtst M := rfl
theorem etok_brd (M : MS) (v : Nat → Int32) : gtok (sbrd M v) = gtok M := rfl
theorem elet_brd (M : MS) (v : Nat → Int32) : glet (sbrd M v) = glet M := rfl
theorem enum_brd (M : MS) (v : Nat → Int32) : gnum (sbrd M v) = gnum M := rfl
theorem eec_brd (M : MS) (v : Nat → Int32) : gec (sbrd M v) = gec M := rfl
theorem eep_brd (M : MS) (v : Nat → Int32) : gep (sbrd M v) = gep M := rfl
theorem ewrd_brd (M : MS) (v : Nat → Int32) : gwrd (sbrd M v) = gwrd M := rfl
theorem ebrd_brd (M : MS) (v : Nat → Int32) : gbrd (sbrd M v) = v := rfl
theorem ebak_brd (M : MS) (v : Nat → Int32) : gbak (sbrd M v) = gbak M := rfl
theorem esav_brd (M : MS) (v : Nat → Int32) : gsav (sbrd M v) = gsav M := rfl
theorem erow_brd (M : MS) (v : Nat → Int32) : grow (sbrd M v) = grow M := rfl
theorem earr_brd (M : MS) (v : Nat → Int32) : garr (sbrd M v) = garr M := rfl
theorem esol_brd (M : MS) (v : Nat → Int32) : gsol (sbrd M v) = gsol M := rfl
theorem ehol_brd (M : MS) (v : Nat → Int32) : ghol (sbrd M v) = ghol M := rfl
theorem eask_brd (M : MS) (v : Nat → Int32) : gask (sbrd M v) = gask M := rfl
theorem ewei_brd (M : MS) (v : Nat → Int32) : gwei (sbrd M v) = gwei M := rfl
theorem etxt_brd (M : MS) (v : Nat → Int32) : gtxt (sbrd M v) = gtxt M := rfl
theorem eplc_brd (M : MS) (v : Nat → Int32) : gplc (sbrd M v) = gplc M := rfl
theorem ecrd_brd (M : MS) (v : Nat → Int32) : gcrd (sbrd M v) = gcrd M := rfl
theorem ecbk_brd (M : MS) (v : Nat → Int32) : gcbk (sbrd M v) = gcbk M := rfl
theorem ecsv_brd (M : MS) (v : Nat → Int32) : gcsv (sbrd M v) = gcsv M := rfl
theorem eiss_brd (M : MS) (v : Nat → Int32) : giss (sbrd M v) = giss M := rfl
theorem ethr_bak (M : MS) (v : Nat → Int32) : gthr (sbak M v) = gthr M := rfl
theorem ercnt_bak (M : MS) (v : Nat → Int32) : grcnt (sbak M v) = grcnt M := rfl
theorem erlen_bak (M : MS) (v : Nat → Int32) : grlen (sbak M v) = grlen M := rfl
theorem erval_bak (M : MS) (v : Nat → Int32) : grval (sbak M v) = grval M := rfl
theorem ebl_bak (M : MS) (v : Nat → Int32) : gbl (sbak M v) = gbl M := rfl
theorem ebp_bak (M : MS) (v : Nat → Int32) : gbp (sbak M v) = gbp M := rfl
theorem ebdr_bak (M : MS) (v : Nat → Int32) : gbdr (sbak M v) = gbdr M := rfl
theorem ews_bak (M : MS) (v : Nat → Int32) : gws (sbak M v) = gws M := rfl
theorem etl_bak (M : MS) (v : Nat → Int32) : gtl (sbak M v) = gtl M := rfl
theorem epos_bak (M : MS) (v : Nat → Int32) : gpos (sbak M v) = gpos M := rfl
theorem etst_bak (M : MS) (v : Nat → Int32) : gtst (sbak M v) = gtst M := rfl
theorem etok_bak (M : MS) (v : Nat → Int32) : gtok (sbak M v) = gtok M := rfl
theorem elet_bak (M : MS) (v : Nat → Int32) : glet (sbak M v) = glet M := rfl
theorem enum_bak (M : MS) (v : Nat → Int32) : gnum (sbak M v) = gnum M := rfl
theorem eec_bak (M : MS) (v : Nat → Int32) : gec (sbak M v) = gec M := rfl
theorem eep_bak (M : MS) (v : Nat → Int32) : gep (sbak M v) = gep M := rfl
theorem ewrd_bak (M : MS) (v : Nat → Int32) : gwrd (sbak M v) = gwrd M := rfl
theorem ebrd_bak (M : MS) (v : Nat → Int32) : gbrd (sbak M v) = gbrd M := rfl
theorem ebak_bak (M : MS) (v : Nat → Int32) : gbak (sbak M v) = v := rfl
theorem esav_bak (M : MS) (v : Nat → Int32) : gsav (sbak M v) = gsav M := rfl
theorem erow_bak (M : MS) (v : Nat → Int32) : grow (sbak M v) = grow M := rfl
theorem earr_bak (M : MS) (v : Nat → Int32) : garr (sbak M v) = garr M := rfl
theorem esol_bak (M : MS) (v : Nat → Int32) : gsol (sbak M v) = gsol M := rfl
theorem ehol_bak (M : MS) (v : Nat → Int32) : ghol (sbak M v) = ghol M := rfl
theorem eask_bak (M : MS) (v : Nat → Int32) : gask (sbak M v) = gask M := rfl
theorem ewei_bak (M : MS) (v : Nat → Int32) : gwei (sbak M v) = gwei M := rfl
theorem etxt_bak (M : MS) (v : Nat → Int32) : gtxt (sbak M v) = gtxt M := rfl
theorem eplc_bak (M : MS) (v : Nat → Int32) : gplc (sbak M v) = gplc M := rfl
theorem ecrd_bak (M : MS) (v : Nat → Int32) : gcrd (sbak M v) = gcrd M := rfl
theorem ecbk_bak (M : MS) (v : Nat → Int32) : gcbk (sbak M v) = gcbk M := rfl
theorem ecsv_bak (M : MS) (v : Nat → Int32) : gcsv (sbak M v) = gcsv M := rfl
theorem eiss_bak (M : MS) (v : Nat → Int32) : giss (sbak M v) = giss M := rfl
theorem ethr_sav (M : MS) (v : Nat → Int32) : gthr (ssav M v) = gthr M := rfl
theorem ercnt_sav (M : MS) (v : Nat → Int32) : grcnt (ssav M v) = grcnt M := rfl
theorem erlen_sav (M : MS) (v : Nat → Int32) : grlen (ssav M v) = grlen M := rfl
theorem erval_sav (M : MS) (v : Nat → Int32) : grval (ssav M v) = grval M := rfl
theorem ebl_sav (M : MS) (v : Nat → Int32) : gbl (ssav M v) = gbl M := rfl
theorem ebp_sav (M : MS) (v : Nat → Int32) : gbp (ssav M v) = gbp M := rfl
theorem ebdr_sav (M : MS) (v : Nat → Int32) : gbdr (ssav M v) = gbdr M := rfl
theorem ews_sav (M : MS) (v : Nat → Int32) : gws (ssav M v) = gws M := rfl
theorem etl_sav (M : MS) (v : Nat → Int32) : gtl (ssav M v) = gtl M := rfl
theorem epos_sav (M : MS) (v : Nat → Int32) : gpos (ssav M v) = gpos M := rfl
theorem etst_sav (M : MS) (v : Nat → Int32) : gtst (ssav M v) = gtst M := rfl
theorem etok_sav (M : MS) (v : Nat → Int32) : gtok (ssav M v) = gtok M := rfl
theorem elet_sav (M : MS) (v : Nat → Int32) : glet (ssav M v) = glet M := rfl
theorem enum_sav (M : MS) (v : Nat → Int32) : gnum (ssav M v) = gnum M := rfl
theorem eec_sav (M : MS) (v : Nat → Int32) : gec (ssav M v) = gec M := rfl
theorem eep_sav (M : MS) (v : Nat → Int32) : gep (ssav M v) = gep M := rfl
theorem ewrd_sav (M : MS) (v : Nat → Int32) : gwrd (ssav M v) = gwrd M := rfl
theorem ebrd_sav (M : MS) (v : Nat → Int32) : gbrd (ssav M v) = gbrd M := rfl
theorem ebak_sav (M : MS) (v : Nat → Int32) : gbak (ssav M v) = gbak M := rfl
theorem esav_sav (M : MS) (v : Nat → Int32) : gsav (ssav M v) = v := rfl
theorem erow_sav (M : MS) (v : Nat → Int32) : grow (ssav M v) = grow M := rfl
theorem earr_sav (M : MS) (v : Nat → Int32) : garr (ssav M v) = garr M := rfl
theorem esol_sav (M : MS) (v : Nat → Int32) : gsol (ssav M v) = gsol M := rfl
theorem ehol_sav (M : MS) (v : Nat → Int32) : ghol (ssav M v) = ghol M := rfl
theorem eask_sav (M : MS) (v : Nat → Int32) : gask (ssav M v) = gask M := rfl
theorem ewei_sav (M : MS) (v : Nat → Int32) : gwei (ssav M v) = gwei M := rfl
theorem etxt_sav (M : MS) (v : Nat → Int32) : gtxt (ssav M v) = gtxt M := rfl
theorem eplc_sav (M : MS) (v : Nat → Int32) : gplc (ssav M v) = gplc M := rfl
theorem ecrd_sav (M : MS) (v : Nat → Int32) : gcrd (ssav M v) = gcrd M := rfl
theorem ecbk_sav (M : MS) (v : Nat → Int32) : gcbk (ssav M v) = gcbk M := rfl
theorem ecsv_sav (M : MS) (v : Nat → Int32) : gcsv (ssav M v) = gcsv M := rfl
theorem eiss_sav (M : MS) (v : Nat → Int32) : giss (ssav M v) = giss M := rfl
theorem ethr_row (M : MS) (v : Nat → Int32) : gthr (srow M v) = gthr M := rfl
theorem ercnt_row (M : MS) (v : Nat → Int32) : grcnt (srow M v) = grcnt M := rfl
theorem erlen_row (M : MS) (v : Nat → Int32) : grlen (srow M v) = grlen M := rfl
theorem erval_row (M : MS) (v : Nat → Int32) : grval (srow M v) = grval M := rfl
theorem ebl_row (M : MS) (v : Nat → Int32) : gbl (srow M v) = gbl M := rfl
theorem ebp_row (M : MS) (v : Nat → Int32) : gbp (srow M v) = gbp M := rfl
theorem ebdr_row (M : MS) (v : Nat → Int32) : gbdr (srow M v) = gbdr M := rfl
theorem ews_row (M : MS) (v : Nat → Int32) : gws (srow M v) = gws M := rfl
theorem etl_row (M : MS) (v : Nat → Int32) : gtl (srow M v) = gtl M := rfl
theorem epos_row (M : MS) (v : Nat → Int32) : gpos (srow M v) = gpos M := rfl
theorem etst_row (M : MS) (v : Nat → Int32) : gtst (srow M v) = gtst M := rfl
theorem etok_row (M : MS) (v : Nat → Int32) : gtok (srow M v) = gtok M := rfl
theorem elet_row (M : MS) (v : Nat → Int32) : glet (srow M v) = glet M := rfl
theorem enum_row (M : MS) (v : Nat → Int32) : gnum (srow M v) = gnum M := rfl
theorem eec_row (M : MS) (v : Nat → Int32) : gec (srow M v) = gec M := rfl
theorem eep_row (M : MS) (v : Nat → Int32) : gep (srow M v) = gep M := rfl
theorem ewrd_row (M : MS) (v : Nat → Int32) : gwrd (srow M v) = gwrd M := rfl
theorem ebrd_row (M : MS) (v : Nat → Int32) : gbrd (srow M v) = gbrd M := rfl
theorem ebak_row (M : MS) (v : Nat → Int32) : gbak (srow M v) = gbak M := rfl
theorem esav_row (M : MS) (v : Nat → Int32) : gsav (srow M v) = gsav M := rfl
theorem erow_row (M : MS) (v : Nat → Int32) : grow (srow M v) = v := rfl
theorem earr_row (M : MS) (v : Nat → Int32) : garr (srow M v) = garr M := rfl
theorem esol_row (M : MS) (v : Nat → Int32) : gsol (srow M v) = gsol M := rfl
theorem ehol_row (M : MS) (v : Nat → Int32) : ghol (srow M v) = ghol M := rfl
theorem eask_row (M : MS) (v : Nat → Int32) : gask (srow M v) = gask M := rfl
theorem ewei_row (M : MS) (v : Nat → Int32) : gwei (srow M v) = gwei M := rfl
theorem etxt_row (M : MS) (v : Nat → Int32) : gtxt (srow M v) = gtxt M := rfl
theorem eplc_row (M : MS) (v : Nat → Int32) : gplc (srow M v) = gplc M := rfl
theorem ecrd_row (M : MS) (v : Nat → Int32) : gcrd (srow M v) = gcrd M := rfl
theorem ecbk_row (M : MS) (v : Nat → Int32) : gcbk (srow M v) = gcbk M := rfl
theorem ecsv_row (M : MS) (v : Nat → Int32) : gcsv (srow M v) = gcsv M := rfl
theorem eiss_row (M : MS) (v : Nat → Int32) : giss (srow M v) = giss M := rfl
theorem ethr_arr (M : MS) (v : Nat → Int32) : gthr (sarr M v) = gthr M := rfl
theorem ercnt_arr (M : MS) (v : Nat → Int32) : grcnt (sarr M v) = grcnt M := rfl
theorem erlen_arr (M : MS) (v : Nat → Int32) : grlen (sarr M v) = grlen M := rfl
theorem erval_arr (M : MS) (v : Nat → Int32) : grval (sarr M v) = grval M := rfl
theorem ebl_arr (M : MS) (v : Nat → Int32) : gbl (sarr M v) = gbl M := rfl
theorem ebp_arr (M : MS) (v : Nat → Int32) : gbp (sarr M v) = gbp M := rfl
theorem ebdr_arr (M : MS) (v : Nat → Int32) : gbdr (sarr M v) = gbdr M := rfl
theorem ews_arr (M : MS) (v : Nat → Int32) : gws (sarr M v) = gws M := rfl
theorem etl_arr (M : MS) (v : Nat → Int32) : gtl (sarr M v) = gtl M := rfl
theorem epos_arr (M : MS) (v : Nat → Int32) : gpos (sarr M v) = gpos M := rfl
theorem etst_arr (M : MS) (v : Nat → Int32) : gtst (sarr M v) = gtst M := rfl
theorem etok_arr (M : MS) (v : Nat → Int32) : gtok (sarr M v) = gtok M := rfl
theorem elet_arr (M : MS) (v : Nat → Int32) : glet (sarr M v) = glet M := rfl
theorem enum_arr (M : MS) (v : Nat → Int32) : gnum (sarr M v) = gnum M := rfl
theorem eec_arr (M : MS) (v : Nat → Int32) : gec (sarr M v) = gec M := rfl
theorem eep_arr (M : MS) (v : Nat → Int32) : gep (sarr M v) = gep M := rfl
theorem ewrd_arr (M : MS) (v : Nat → Int32) : gwrd (sarr M v) = gwrd M := rfl
theorem ebrd_arr (M : MS) (v : Nat → Int32) : gbrd (sarr M v) = gbrd M := rfl
theorem ebak_arr (M : MS) (v : Nat → Int32) : gbak (sarr M v) = gbak M := rfl
theorem esav_arr (M : MS) (v : Nat → Int32) : gsav (sarr M v) = gsav M := rfl
theorem erow_arr (M : MS) (v : Nat → Int32) : grow (sarr M v) = grow M := rfl
theorem earr_arr (M : MS) (v : Nat → Int32) : garr (sarr M v) = v := rfl
theorem esol_arr (M : MS) (v : Nat → Int32) : gsol (sarr M v) = gsol M := rfl
theorem ehol_arr (M : MS) (v : Nat → Int32) : ghol (sarr M v) = ghol M := rfl
theorem eask_arr (M : MS) (v : Nat → Int32) : gask (sarr M v) = gask M := rfl
theorem ewei_arr (M : MS) (v : Nat → Int32) : gwei (sarr M v) = gwei M := rfl
theorem etxt_arr (M : MS) (v : Nat → Int32) : gtxt (sarr M v) = gtxt M := rfl
theorem eplc_arr (M : MS) (v : Nat → Int32) : gplc (sarr M v) = gplc M := rfl
theorem ecrd_arr (M : MS) (v : Nat → Int32) : gcrd (sarr M v) = gcrd M := rfl
theorem ecbk_arr (M : MS) (v : Nat → Int32) : gcbk (sarr M v) = gcbk M := rfl
theorem ecsv_arr (M : MS) (v : Nat → Int32) : gcsv (sarr M v) = gcsv M := rfl
theorem eiss_arr (M : MS) (v : Nat → Int32) : giss (sarr M v) = giss M := rfl
theorem ethr_sol (M : MS) (v : Nat → Int32) : gthr (ssol M v) = gthr M := rfl
theorem ercnt_sol (M : MS) (v : Nat → Int32) : grcnt (ssol M v) = grcnt M := rfl
theorem erlen_sol (M : MS) (v : Nat → Int32) : grlen (ssol M v) = grlen M := rfl
theorem erval_sol (M : MS) (v : Nat → Int32) : grval (ssol M v) = grval M := rfl
theorem ebl_sol (M : MS) (v : Nat → Int32) : gbl (ssol M v) = gbl M := rfl
theorem ebp_sol (M : MS) (v : Nat → Int32) : gbp (ssol M v) = gbp M := rfl
theorem ebdr_sol (M : MS) (v : Nat → Int32) : gbdr (ssol M v) = gbdr M := rfl
theorem ews_sol (M : MS) (v : Nat → Int32) : gws (ssol M v) = gws M := rfl
theorem etl_sol (M : MS) (v : Nat → Int32) : gtl (ssol M v) = gtl M := rfl
theorem epos_sol (M : MS) (v : Nat → Int32) : gpos (ssol M v) = gpos M := rfl
theorem etst_sol (M : MS) (v : Nat → Int32) : gtst (ssol M v) = gtst M := rfl
theorem etok_sol (M : MS) (v : Nat → Int32) : gtok (ssol M v) = gtok M := rfl
theorem elet_sol (M : MS) (v : Nat → Int32) : glet (ssol M v) = glet M := rfl
theorem enum_sol (M : MS) (v : Nat → Int32) : gnum (ssol M v) = gnum M := rfl
theorem eec_sol (M : MS) (v : Nat → Int32) : gec (ssol M v) = gec M := rfl
theorem eep_sol (M : MS) (v : Nat → Int32) : gep (ssol M v) = gep M := rfl
theorem ewrd_sol (M : MS) (v : Nat → Int32) : gwrd (ssol M v) = gwrd M := rfl
theorem ebrd_sol (M : MS) (v : Nat → Int32) : gbrd (ssol M v) = gbrd M := rfl
theorem ebak_sol (M : MS) (v : Nat → Int32) : gbak (ssol M v) = gbak M := rfl
theorem esav_sol (M : MS) (v : Nat → Int32) : gsav (ssol M v) = gsav M := rfl
theorem erow_sol (M : MS) (v : Nat → Int32) : grow (ssol M v) = grow M := rfl
theorem earr_sol (M : MS) (v : Nat → Int32) : garr (ssol M v) = garr M := rfl
theorem esol_sol (M : MS) (v : Nat → Int32) : gsol (ssol M v) = v := rfl
theorem ehol_sol (M : MS) (v : Nat → Int32) : ghol (ssol M v) = ghol M := rfl
theorem eask_sol (M : MS) (v : Nat → Int32) : gask (ssol M v) = gask M := rfl
theorem ewei_sol (M : MS) (v : Nat → Int32) : gwei (ssol M v) = gwei M := rfl
theorem etxt_sol (M : MS) (v : Nat → Int32) : gtxt (ssol M v) = gtxt M := rfl
theorem eplc_sol (M : MS) (v : Nat → Int32) : gplc (ssol M v) = gplc M := rfl
theorem ecrd_sol (M : MS) (v : Nat → Int32) : gcrd (ssol M v) = gcrd M := rfl
theorem ecbk_sol (M : MS) (v : Nat → Int32) : gcbk (ssol M v) = gcbk M := rfl
theorem ecsv_sol (M : MS) (v : Nat → Int32) : gcsv (ssol M v) = gcsv M := rfl
theorem eiss_sol (M : MS) (v : Nat → Int32) : giss (ssol M v) = giss M := rfl
theorem ethr_hol (M : MS) (v : Nat → Int32) : gthr (shol M v) = gthr M := rfl
theorem ercnt_hol (M : MS) (v : Nat → Int32) : grcnt (shol M v) = grcnt M := rfl
theorem erlen_hol (M : MS) (v : Nat → Int32) : grlen (shol M v) = grlen M := rfl
theorem erval_hol (M : MS) (v : Nat → Int32) : grval (shol M v) = grval M := rfl
theorem ebl_hol (M : MS) (v : Nat → Int32) : gbl (shol M v) = gbl M := rfl
theorem ebp_hol (M : MS) (v : Nat → Int32) : gbp (shol M v) = gbp M := rfl
theorem ebdr_hol (M : MS) (v : Nat → Int32) : gbdr (shol M v) = gbdr M := rfl
theorem ews_hol (M : MS) (v : Nat → Int32) : gws (shol M v) = gws M := rfl
theorem etl_hol (M : MS) (v : Nat → Int32) : gtl (shol M v) = gtl M := rfl
theorem epos_hol (M : MS) (v : Nat → Int32) : gpos (shol M v) = gpos M := rfl
theorem etst_hol (M : MS) (v : Nat → Int32) : gtst (shol M v) = gtst M := rfl
theorem etok_hol (M : MS) (v : Nat → Int32) : gtok (shol M v) = gtok M := rfl
theorem elet_hol (M : MS) (v : Nat → Int32) : glet (shol M v) = glet M := rfl
theorem enum_hol (M : MS) (v : Nat → Int32) : gnum (shol M v) = gnum M := rfl
theorem eec_hol (M : MS) (v : Nat → Int32) : gec (shol M v) = gec M := rfl
theorem eep_hol (M : MS) (v : Nat → Int32) : gep (shol M v) = gep M := rfl
theorem ewrd_hol (M : MS) (v : Nat → Int32) : gwrd (shol M v) = gwrd M := rfl
theorem ebrd_hol (M : MS) (v : Nat → Int32) : gbrd (shol M v) = gbrd M := rfl
theorem ebak_hol (M : MS) (v : Nat → Int32) : gbak (shol M v) = gbak M := rfl
theorem esav_hol (M : MS) (v : Nat → Int32) : gsav (shol M v) = gsav M := rfl
theorem erow_hol (M : MS) (v : Nat → Int32) : grow (shol M v) = grow M := rfl
theorem earr_hol (M : MS) (v : Nat → Int32) : garr (shol M v) = garr M := rfl
theorem esol_hol (M : MS) (v : Nat → Int32) : gsol (shol M v) = gsol M := rfl
theorem ehol_hol (M : MS) (v : Nat → Int32) : ghol (shol M v) = v := rfl
theorem eask_hol (M : MS) (v : Nat → Int32) : gask (shol M v) = gask M := rfl
theorem ewei_hol (M : MS) (v : Nat → Int32) : gwei (shol M v) = gwei M := rfl
theorem etxt_hol (M : MS) (v : Nat → Int32) : gtxt (shol M v) = gtxt M := rfl
theorem eplc_hol (M : MS) (v : Nat → Int32) : gplc (shol M v) = gplc M := rfl
theorem ecrd_hol (M : MS) (v : Nat → Int32) : gcrd (shol M v) = gcrd M := rfl
theorem ecbk_hol (M : MS) (v : Nat → Int32) : gcbk (shol M v) = gcbk M := rfl
theorem ecsv_hol (M : MS) (v : Nat → Int32) : gcsv (shol M v) = gcsv M := rfl
theorem eiss_hol (M : MS) (v : Nat → Int32) : giss (shol M v) = giss M := rfl
theorem ethr_ask (M : MS) (v : Nat → Int32) : gthr (sask M v) = gthr M := rfl
theorem ercnt_ask (M : MS) (v : Nat → Int32) : grcnt (sask M v) = grcnt M := rfl
theorem erlen_ask (M : MS) (v : Nat → Int32) : grlen (sask M v) = grlen M := rfl
theorem erval_ask (M : MS) (v : Nat → Int32) : grval (sask M v) = grval M := rfl
theorem ebl_ask (M : MS) (v : Nat → Int32) : gbl (sask M v) = gbl M := rfl
theorem ebp_ask (M : MS) (v : Nat → Int32) : gbp (sask M v) = gbp M := rfl
theorem ebdr_ask (M : MS) (v : Nat → Int32) : gbdr (sask M v) = gbdr M := rfl
theorem ews_ask (M : MS) (v : Nat → Int32) : gws (sask M v) = gws M := rfl
theorem etl_ask (M : MS) (v : Nat → Int32) : gtl (sask M v) = gtl M := rfl
theorem epos_ask (M : MS) (v : Nat → Int32) : gpos (sask M v) = gpos M := rfl
theorem etst_ask (M : MS) (v : Nat → Int32) : gtst (sask M v) = gtst M := rfl
theorem etok_ask (M : MS) (v : Nat → Int32) : gtok (sask M v) = gtok M := rfl
theorem elet_ask (M : MS) (v : Nat → Int32) : glet (sask M v) = glet M := rfl
theorem enum_ask (M : MS) (v : Nat → Int32) : gnum (sask M v) = gnum M := rfl
theorem eec_ask (M : MS) (v : Nat → Int32) : gec (sask M v) = gec M := rfl
theorem eep_ask (M : MS) (v : Nat → Int32) : gep (sask M v) = gep M := rfl
theorem ewrd_ask (M : MS) (v : Nat → Int32) : gwrd (sask M v) = gwrd M := rfl
theorem ebrd_ask (M : MS) (v : Nat → Int32) : gbrd (sask M v) = gbrd M := rfl
theorem ebak_ask (M : MS) (v : Nat → Int32) : gbak (sask M v) = gbak M := rfl
theorem esav_ask (M : MS) (v : Nat → Int32) : gsav (sask M v) = gsav M := rfl
theorem erow_ask (M : MS) (v : Nat → Int32) : grow (sask M v) = grow M := rfl
theorem earr_ask (M : MS) (v : Nat → Int32) : garr (sask M v) = garr M := rfl
theorem esol_ask (M : MS) (v : Nat → Int32) : gsol (sask M v) = gsol M := rfl
theorem ehol_ask (M : MS) (v : Nat → Int32) : ghol (sask M v) = ghol M := rfl
theorem eask_ask (M : MS) (v : Nat → Int32) : gask (sask M v) = v := rfl
theorem ewei_ask (M : MS) (v : Nat → Int32) : gwei (sask M v) = gwei M := rfl
theorem etxt_ask (M : MS) (v : Nat → Int32) : gtxt (sask M v) = gtxt M := rfl
theorem eplc_ask (M : MS) (v : Nat → Int32) : gplc (sask M v) = gplc M := rfl
theorem ecrd_ask (M : MS) (v : Nat → Int32) : gcrd (sask M v) = gcrd M := rfl
theorem ecbk_ask (M : MS) (v : Nat → Int32) : gcbk (sask M v) = gcbk M := rfl
theorem ecsv_ask (M : MS) (v : Nat → Int32) : gcsv (sask M v) = gcsv M := rfl
theorem eiss_ask (M : MS) (v : Nat → Int32) : giss (sask M v) = giss M := rfl
theorem ethr_wei (M : MS) (v : Nat → Int32) : gthr (swei M v) = gthr M := rfl
theorem ercnt_wei (M : MS) (v : Nat → Int32) : grcnt (swei M v) = grcnt M := rfl
theorem erlen_wei (M : MS) (v : Nat → Int32) : grlen (swei M v) = grlen M := rfl
theorem erval_wei (M : MS) (v : Nat → Int32) : grval (swei M v) = grval M := rfl
theorem ebl_wei (M : MS) (v : Nat → Int32) : gbl (swei M v) = gbl M := rfl
theorem ebp_wei (M : MS) (v : Nat → Int32) : gbp (swei M v) = gbp M := rfl
theorem ebdr_wei (M : MS) (v : Nat → Int32) : gbdr (swei M v) = gbdr M := rfl
theorem ews_wei (M : MS) (v : Nat → Int32) : gws (swei M v) = gws M := rfl
theorem etl_wei (M : MS) (v : Nat → Int32) : gtl (swei M v) = gtl M := rfl
theorem epos_wei (M : MS) (v : Nat → Int32) : gpos (swei M v) = gpos M := rfl
theorem etst_wei (M : MS) (v : Nat → Int32) : gtst (swei M v) = gtst M := rfl
theorem etok_wei (M : MS) (v : Nat → Int32) : gtok (swei M v) = gtok M := rfl
theorem elet_wei (M : MS) (v : Nat → Int32) : glet (swei M v) = glet M := rfl
theorem enum_wei (M : MS) (v : Nat → Int32) : gnum (swei M v) = gnum M := rfl
theorem eec_wei (M : MS) (v : Nat → Int32) : gec (swei M v) = gec M := rfl
theorem eep_wei (M : MS) (v : Nat → Int32) : gep (swei M v) = gep M := rfl
theorem ewrd_wei (M : MS) (v : Nat → Int32) : gwrd (swei M v) = gwrd M := rfl
theorem ebrd_wei (M : MS) (v : Nat → Int32) : gbrd (swei M v) = gbrd M := rfl
theorem ebak_wei (M : MS) (v : Nat → Int32) : gbak (swei M v) = gbak M := rfl
theorem esav_wei (M : MS) (v : Nat → Int32) : gsav (swei M v) = gsav M := rfl
theorem erow_wei (M : MS) (v : Nat → Int32) : grow (swei M v) = grow M := rfl
theorem earr_wei (M : MS) (v : Nat → Int32) : garr (swei M v) = garr M := rfl
theorem esol_wei (M : MS) (v : Nat → Int32) : gsol (swei M v) = gsol M := rfl
theorem ehol_wei (M : MS) (v : Nat → Int32) : ghol (swei M v) = ghol M := rfl
theorem eask_wei (M : MS) (v : Nat → Int32) : gask (swei M v) = gask M := rfl
theorem ewei_wei (M : MS) (v : Nat → Int32) : gwei (swei M v) = v := rfl
theorem etxt_wei (M : MS) (v : Nat → Int32) : gtxt (swei M v) = gtxt M := rfl
theorem eplc_wei (M : MS) (v : Nat → Int32) : gplc (swei M v) = gplc M := rfl
theorem ecrd_wei (M : MS) (v : Nat → Int32) : gcrd (swei M v) = gcrd M := rfl
theorem ecbk_wei (M : MS) (v : Nat → Int32) : gcbk (swei M v) = gcbk M := rfl
theorem ecsv_wei (M : MS) (v : Nat → Int32) : gcsv (swei M v) = gcsv M := rfl
theorem eiss_wei (M : MS) (v : Nat → Int32) : giss (swei M v) = giss M := rfl
theorem ethr_txt (M : MS) (v : Nat → Int32) : gthr (stxt M v) = gthr M := rfl
theorem ercnt_txt (M : MS) (v : Nat → Int32) : grcnt (stxt M v) = grcnt M := rfl
theorem erlen_txt (M : MS) (v : Nat → Int32) : grlen (stxt M v) = grlen M := rfl
theorem erval_txt (M : MS) (v : Nat → Int32) : grval (stxt M v) = grval M := rfl
theorem ebl_txt (M : MS) (v : Nat → Int32) : gbl (stxt M v) = gbl M := rfl
theorem ebp_txt (M : MS) (v : Nat → Int32) : gbp (stxt M v) = gbp M := rfl
theorem ebdr_txt (M : MS) (v : Nat → Int32) : gbdr (stxt M v) = gbdr M := rfl
theorem ews_txt (M : MS) (v : Nat → Int32) : gws (stxt M v) = gws M := rfl
theorem etl_txt (M : MS) (v : Nat → Int32) : gtl (stxt M v) = gtl M := rfl
theorem epos_txt (M : MS) (v : Nat → Int32) : gpos (stxt M v) = gpos M := rfl
theorem etst_txt (M : MS) (v : Nat → Int32) : gtst (stxt M v) = gtst M := rfl
theorem etok_txt (M : MS) (v : Nat → Int32) : gtok (stxt M v) = gtok M := rfl
theorem elet_txt (M : MS) (v : Nat → Int32) : glet (stxt M v) = glet M := rfl
theorem enum_txt (M : MS) (v : Nat → Int32) : gnum (stxt M v) = gnum M := rfl
theorem eec_txt (M : MS) (v : Nat → Int32) : gec (stxt M v) = gec M := rfl
theorem eep_txt (M : MS) (v : Nat → Int32) : gep (stxt M v) = gep M := rfl
theorem ewrd_txt (M : MS) (v : Nat → Int32) : gwrd (stxt M v) = gwrd M := rfl
theorem ebrd_txt (M : MS) (v : Nat → Int32) : gbrd (stxt M v) = gbrd M := rfl
theorem ebak_txt (M : MS) (v : Nat → Int32) : gbak (stxt M v) = gbak M := rfl
theorem esav_txt (M : MS) (v : Nat → Int32) : gsav (stxt M v) = gsav M := rfl
theorem erow_txt (M : MS) (v : Nat → Int32) : grow (stxt M v) = grow M := rfl
theorem earr_txt (M : MS) (v : Nat → Int32) : garr (stxt M v) = garr M := rfl
theorem esol_txt (M : MS) (v : Nat → Int32) : gsol (stxt M v) = gsol M := rfl
theorem ehol_txt (M : MS) (v : Nat → Int32) : ghol (stxt M v) = ghol M := rfl
theorem eask_txt (M : MS) (v : Nat → Int32) : gask (stxt M v) = gask M := rfl
theorem ewei_txt (M : MS) (v : Nat → Int32) : gwei (stxt M v) = gwei M := rfl
theorem etxt_txt (M : MS) (v : Nat → Int32) : gtxt (stxt M v) = v := rfl
theorem eplc_txt (M : MS) (v : Nat → Int32) : gplc (stxt M v) = gplc M := rfl
theorem ecrd_txt (M : MS) (v : Nat → Int32) : gcrd (stxt M v) = gcrd M := rfl
theorem ecbk_txt (M : MS) (v : Nat → Int32) : gcbk (stxt M v) = gcbk M := rfl
theorem ecsv_txt (M : MS) (v : Nat → Int32) : gcsv (stxt M v) = gcsv M := rfl
theorem eiss_txt (M : MS) (v : Nat → Int32) : giss (stxt M v) = giss M := rfl
theorem ethr_plc (M : MS) (v : Nat → Int32) : gthr (splc M v) = gthr M := rfl
theorem ercnt_plc (M : MS) (v : Nat → Int32) : grcnt (splc M v) = grcnt M := rfl
theorem erlen_plc (M : MS) (v : Nat → Int32) : grlen (splc M v) = grlen M := rfl
theorem erval_plc (M : MS) (v : Nat → Int32) : grval (splc M v) = grval M := rfl
theorem ebl_plc (M : MS) (v : Nat → Int32) : gbl (splc M v) = gbl M := rfl
theorem ebp_plc (M : MS) (v : Nat → Int32) : gbp (splc M v) = gbp M := rfl
theorem ebdr_plc (M : MS) (v : Nat → Int32) : gbdr (splc M v) = gbdr M := rfl
theorem ews_plc (M : MS) (v : Nat → Int32) : gws (splc M v) = gws M := rfl
theorem etl_plc (M : MS) (v : Nat → Int32) : gtl (splc M v) = gtl M := rfl
theorem epos_plc (M : MS) (v : Nat → Int32) : gpos (splc M v) = gpos M := rfl
theorem etst_plc (M : MS) (v : Nat → Int32) : gtst (splc M v) = gtst M := rfl
theorem etok_plc (M : MS) (v : Nat → Int32) : gtok (splc M v) = gtok M := rfl
theorem elet_plc (M : MS) (v : Nat → Int32) : glet (splc M v) = glet M := rfl
theorem enum_plc (M : MS) (v : Nat → Int32) : gnum (splc M v) = gnum M := rfl
theorem eec_plc (M : MS) (v : Nat → Int32) : gec (splc M v) = gec M := rfl
theorem eep_plc (M : MS) (v : Nat → Int32) : gep (splc M v) = gep M := rfl
theorem ewrd_plc (M : MS) (v : Nat → Int32) : gwrd (splc M v) = gwrd M := rfl
theorem ebrd_plc (M : MS) (v : Nat → Int32) : gbrd (splc M v) = gbrd M := rfl
theorem ebak_plc (M : MS) (v : Nat → Int32) : gbak (splc M v) = gbak M := rfl
theorem esav_plc (M : MS) (v : Nat → Int32) : gsav (splc M v) = gsav M := rfl
theorem erow_plc (M : MS) (v : Nat → Int32) : grow (splc M v) = grow M := rfl
theorem earr_plc (M : MS) (v : Nat → Int32) : garr (splc M v) = garr M := rfl
theorem esol_plc (M : MS) (v : Nat → Int32) : gsol (splc M v) = gsol M := rfl
theorem ehol_plc (M : MS) (v : Nat → Int32) : ghol (splc M v) = ghol M := rfl
theorem eask_plc (M : MS) (v : Nat → Int32) : gask (splc M v) = gask M := rfl
theorem ewei_plc (M : MS) (v : Nat → Int32) : gwei (splc M v) = gwei M := rfl
theorem etxt_plc (M : MS) (v : Nat → Int32) : gtxt (splc M v) = gtxt M := rfl
theorem eplc_plc (M : MS) (v : Nat → Int32) : gplc (splc M v) = v := rfl
theorem ecrd_plc (M : MS) (v : Nat → Int32) : gcrd (splc M v) = gcrd M := rfl
theorem ecbk_plc (M : MS) (v : Nat → Int32) : gcbk (splc M v) = gcbk M := rfl
theorem ecsv_plc (M : MS) (v : Nat → Int32) : gcsv (splc M v) = gcsv M := rfl
theorem eiss_plc (M : MS) (v : Nat → Int32) : giss (splc M v) = giss M := rfl
theorem ethr_crd (M : MS) (v : Nat → Int64) : gthr (scrd M v) = gthr M := rfl
theorem ercnt_crd (M : MS) (v : Nat → Int64) : grcnt (scrd M v) = grcnt M := rfl
theorem erlen_crd (M : MS) (v : Nat → Int64) : grlen (scrd M v) = grlen M := rfl
theorem erval_crd (M : MS) (v : Nat → Int64) : grval (scrd M v) = grval M := rfl
theorem ebl_crd (M : MS) (v : Nat → Int64) : gbl (scrd M v) = gbl M := rfl
theorem ebp_crd (M : MS) (v : Nat → Int64) : gbp (scrd M v) = gbp M := rfl
theorem ebdr_crd (M : MS) (v : Nat → Int64) : gbdr (scrd M v) = gbdr M := rfl
theorem ews_crd (M : MS) (v : Nat → Int64) : gws (scrd M v) = gws M := rfl
theorem etl_crd (M : MS) (v : Nat → Int64) : gtl (scrd M v) = gtl M := rfl
theorem epos_crd (M : MS) (v : Nat → Int64) : gpos (scrd M v) = gpos M := rfl
theorem etst_crd (M : MS) (v : Nat → Int64) : gtst (scrd M v) = gtst M := rfl
theorem etok_crd (M : MS) (v : Nat → Int64) : gtok (scrd M v) = gtok M := rfl
theorem elet_crd (M : MS) (v : Nat → Int64) : glet (scrd M v) = glet M := rfl
theorem enum_crd (M : MS) (v : Nat → Int64) : gnum (scrd M v) = gnum M := rfl
theorem eec_crd (M : MS) (v : Nat → Int64) : gec (scrd M v) = gec M := rfl
theorem eep_crd (M : MS) (v : Nat → Int64) : gep (scrd M v) = gep M := rfl
theorem ewrd_crd (M : MS) (v : Nat → Int64) : gwrd (scrd M v) = gwrd M := rfl
theorem ebrd_crd (M : MS) (v : Nat → Int64) : gbrd (scrd M v) = gbrd M := rfl
theorem ebak_crd (M : MS) (v : Nat → Int64) : gbak (scrd M v) = gbak M := rfl
theorem esav_crd (M : MS) (v : Nat → Int64) : gsav (scrd M v) = gsav M := rfl
theorem erow_crd (M : MS) (v : Nat → Int64) : grow (scrd M v) = grow M := rfl
theorem earr_crd (M : MS) (v : Nat → Int64) : garr (scrd M v) = garr M := rfl
theorem esol_crd (M : MS) (v : Nat → Int64) : gsol (scrd M v) = gsol M := rfl
theorem ehol_crd (M : MS) (v : Nat → Int64) : ghol (scrd M v) = ghol M := rfl
theorem eask_crd (M : MS) (v : Nat → Int64) : gask (scrd M v) = gask M := rfl
theorem ewei_crd (M : MS) (v : Nat → Int64) : gwei (scrd M v) = gwei M := rfl
theorem etxt_crd (M : MS) (v : Nat → Int64) : gtxt (scrd M v) = gtxt M := rfl
theorem eplc_crd (M : MS) (v : Nat → Int64) : gplc (scrd M v) = gplc M := rfl
theorem ecrd_crd (M : MS) (v : Nat → Int64) : gcrd (scrd M v) = v := rfl
theorem ecbk_crd (M : MS) (v : Nat → Int64) : gcbk (scrd M v) = gcbk M := rfl
theorem ecsv_crd (M : MS) (v : Nat → Int64) : gcsv (scrd M v) = gcsv M := rfl
theorem eiss_crd (M : MS) (v : Nat → Int64) : giss (scrd M v) = giss M := rfl
theorem ethr_cbk (M : MS) (v : Nat → Int64) : gthr (scbk M v) = gthr M := rfl
theorem ercnt_cbk (M : MS) (v : Nat → Int64) : grcnt (scbk M v) = grcnt M := rfl
theorem erlen_cbk (M : MS) (v : Nat → Int64) : grlen (scbk M v) = grlen M := rfl
theorem erval_cbk (M : MS) (v : Nat → Int64) : grval (scbk M v) = grval M := rfl
theorem ebl_cbk (M : MS) (v : Nat → Int64) : gbl (scbk M v) = gbl M := rfl
theorem ebp_cbk (M : MS) (v : Nat → Int64) : gbp (scbk M v) = gbp M := rfl
theorem ebdr_cbk (M : MS) (v : Nat → Int64) : gbdr (scbk M v) = gbdr M := rfl
theorem ews_cbk (M : MS) (v : Nat → Int64) : gws (scbk M v) = gws M := rfl
theorem etl_cbk (M : MS) (v : Nat → Int64) : gtl (scbk M v) = gtl M := rfl
theorem epos_cbk (M : MS) (v : Nat → Int64) : gpos (scbk M v) = gpos M := rfl
theorem etst_cbk (M : MS) (v : Nat → Int64) : gtst (scbk M v) = gtst M := rfl
theorem etok_cbk (M : MS) (v : Nat → Int64) : gtok (scbk M v) = gtok M := rfl
theorem elet_cbk (M : MS) (v : Nat → Int64) : glet (scbk M v) = glet M := rfl
theorem enum_cbk (M : MS) (v : Nat → Int64) : gnum (scbk M v) = gnum M := rfl
theorem eec_cbk (M : MS) (v : Nat → Int64) : gec (scbk M v) = gec M := rfl
theorem eep_cbk (M : MS) (v : Nat → Int64) : gep (scbk M v) = gep M := rfl
theorem ewrd_cbk (M : MS) (v : Nat → Int64) : gwrd (scbk M v) = gwrd M := rfl
theorem ebrd_cbk (M : MS) (v : Nat → Int64) : gbrd (scbk M v) = gbrd M := rfl
theorem ebak_cbk (M : MS) (v : Nat → Int64) : gbak (scbk M v) = gbak M := rfl
theorem esav_cbk (M : MS) (v : Nat → Int64) : gsav (scbk M v) = gsav M := rfl
theorem erow_cbk (M : MS) (v : Nat → Int64) : grow (scbk M v) = grow M := rfl
theorem earr_cbk (M : MS) (v : Nat → Int64) : garr (scbk M v) = garr M := rfl
theorem esol_cbk (M : MS) (v : Nat → Int64) : gsol (scbk M v) = gsol M := rfl
theorem ehol_cbk (M : MS) (v : Nat → Int64) : ghol (scbk M v) = ghol M := rfl
theorem eask_cbk (M : MS) (v : Nat → Int64) : gask (scbk M v) = gask M := rfl
theorem ewei_cbk (M : MS) (v : Nat → Int64) : gwei (scbk M v) = gwei M := rfl
theorem etxt_cbk (M : MS) (v : Nat → Int64) : gtxt (scbk M v) = gtxt M := rfl
theorem eplc_cbk (M : MS) (v : Nat → Int64) : gplc (scbk M v) = gplc M := rfl
theorem ecrd_cbk (M : MS) (v : Nat → Int64) : gcrd (scbk M v) = gcrd M := rfl
theorem ecbk_cbk (M : MS) (v : Nat → Int64) : gcbk (scbk M v) = v := rfl
theorem ecsv_cbk (M : MS) (v : Nat → Int64) : gcsv (scbk M v) = gcsv M := rfl
theorem eiss_cbk (M : MS) (v : Nat → Int64) : giss (scbk M v) = giss M := rfl
theorem ethr_csv (M : MS) (v : Nat → Int64) : gthr (scsv M v) = gthr M := rfl
theorem ercnt_csv (M : MS) (v : Nat → Int64) : grcnt (scsv M v) = grcnt M := rfl
theorem erlen_csv (M : MS) (v : Nat → Int64) : grlen (scsv M v) = grlen M := rfl
theorem erval_csv (M : MS) (v : Nat → Int64) : grval (scsv M v) = grval M := rfl
theorem ebl_csv (M : MS) (v : Nat → Int64) : gbl (scsv M v) = gbl M := rfl
theorem ebp_csv (M : MS) (v : Nat → Int64) : gbp (scsv M v) = gbp M := rfl
theorem ebdr_csv (M : MS) (v : Nat → Int64) : gbdr (scsv M v) = gbdr M := rfl
theorem ews_csv (M : MS) (v : Nat → Int64) : gws (scsv M v) = gws M := rfl
theorem etl_csv (M : MS) (v : Nat → Int64) : gtl (scsv M v) = gtl M := rfl
theorem epos_csv (M : MS) (v : Nat → Int64) : gpos (scsv M v) = gpos M := rfl
theorem etst_csv (M : MS) (v : Nat → Int64) : gtst (scsv M v) = gtst M := rfl
theorem etok_csv (M : MS) (v : Nat → Int64) : gtok (scsv M v) = gtok M := rfl
theorem elet_csv (M : MS) (v : Nat → Int64) : glet (scsv M v) = glet M := rfl
theorem enum_csv (M : MS) (v : Nat → Int64) : gnum (scsv M v) = gnum M := rfl
theorem eec_csv (M : MS) (v : Nat → Int64) : gec (scsv M v) = gec M := rfl
theorem eep_csv (M : MS) (v : Nat → Int64) : gep (scsv M v) = gep M := rfl
theorem ewrd_csv (M : MS) (v : Nat → Int64) : gwrd (scsv M v) = gwrd M := rfl
theorem ebrd_csv (M : MS) (v : Nat → Int64) : gbrd (scsv M v) = gbrd M := rfl
theorem ebak_csv (M : MS) (v : Nat → Int64) : gbak (scsv M v) = gbak M := rfl
theorem esav_csv (M : MS) (v : Nat → Int64) : gsav (scsv M v) = gsav M := rfl
theorem erow_csv (M : MS) (v : Nat → Int64) : grow (scsv M v) = grow M := rfl
theorem earr_csv (M : MS) (v : Nat → Int64) : garr (scsv M v) = garr M := rfl
theorem esol_csv (M : MS) (v : Nat → Int64) : gsol (scsv M v) = gsol M := rfl
theorem ehol_csv (M : MS) (v : Nat → Int64) : ghol (scsv M v) = ghol M := rfl
theorem eask_csv (M : MS) (v : Nat → Int64) : gask (scsv M v) = gask M := rfl
theorem ewei_csv (M : MS) (v : Nat → Int64) : gwei (scsv M v) = gwei M := rfl
theorem etxt_csv (M : MS) (v : Nat → Int64) : gtxt (scsv M v) = gtxt M := rfl
theorem eplc_csv (M : MS) (v : Nat → Int64) : gplc (scsv M v) = gplc M := rfl
theorem ecrd_csv (M : MS) (v : Nat → Int64) : gcrd (scsv M v) = gcrd M := rfl
theorem ecbk_csv (M : MS) (v : Nat → Int64) : gcbk (scsv M v) = gcbk M := rfl
theorem ecsv_csv (M : MS) (v : Nat → Int64) : gcsv (scsv M v) = v := rfl
theorem eiss_csv (M : MS) (v : Nat → Int64) : giss (scsv M v) = giss M := rfl
theorem ethr_iss (M : MS) (v : Nat → Int32) : gthr (siss M v) = gthr M := rfl
theorem ercnt_iss (M : MS) (v : Nat → Int32) : grcnt (siss M v) = grcnt M := rfl
theorem erlen_iss (M : MS) (v : Nat → Int32) : grlen (siss M v) = grlen M := rfl
theorem erval_iss (M : MS) (v : Nat → Int32) : grval (siss M v) = grval M := rfl
theorem ebl_iss (M : MS) (v : Nat → Int32) : gbl (siss M v) = gbl M := rfl
theorem ebp_iss (M : MS) (v : Nat → Int32) : gbp (siss M v) = gbp M := rfl
theorem ebdr_iss (M : MS) (v : Nat → Int32) : gbdr (siss M v) = gbdr M := rfl
theorem ews_iss (M : MS) (v : Nat → Int32) : gws (siss M v) = gws M := rfl
theorem etl_iss (M : MS) (v : Nat → Int32) : gtl (siss M v) = gtl M := rfl
theorem epos_iss (M : MS) (v : Nat → Int32) : gpos (siss M v) = gpos M := rfl
theorem etst_iss (M : MS) (v : Nat → Int32) : gtst (siss M v) = gtst M := rfl
theorem etok_iss (M : MS) (v : Nat → Int32) : gtok (siss M v) = gtok M := rfl
theorem elet_iss (M : MS) (v : Nat → Int32) : glet (siss M v) = glet M := rfl
theorem enum_iss (M : MS) (v : Nat → Int32) : gnum (siss M v) = gnum M := rfl
theorem eec_iss (M : MS) (v : Nat → Int32) : gec (siss M v) = gec M := rfl
theorem eep_iss (M : MS) (v : Nat → Int32) : gep (siss M v) = gep M := rfl
theorem ewrd_iss (M : MS) (v : Nat → Int32) : gwrd (siss M v) = gwrd M := rfl
theorem ebrd_iss (M : MS) (v : Nat → Int32) : gbrd (siss M v) = gbrd M := rfl
theorem ebak_iss (M : MS) (v : Nat → Int32) : gbak (siss M v) = gbak M := rfl
theorem esav_iss (M : MS) (v : Nat → Int32) : gsav (siss M v) = gsav M := rfl
theorem erow_iss (M : MS) (v : Nat → Int32) : grow (siss M v) = grow M := rfl
theorem earr_iss (M : MS) (v : Nat → Int32) : garr (siss M v) = garr M := rfl
theorem esol_iss (M : MS) (v : Nat → Int32) : gsol (siss M v) = gsol M := rfl
theorem ehol_iss (M : MS) (v : Nat → Int32) : ghol (siss M v) = ghol M := rfl
theorem eask_iss (M : MS) (v : Nat → Int32) : gask (siss M v) = gask M := rfl
theorem ewei_iss (M : MS) (v : Nat → Int32) : gwei (siss M v) = gwei M := rfl
theorem etxt_iss (M : MS) (v : Nat → Int32) : gtxt (siss M v) = gtxt M := rfl
theorem eplc_iss (M : MS) (v : Nat → Int32) : gplc (siss M v) = gplc M := rfl
theorem ecrd_iss (M : MS) (v : Nat → Int32) : gcrd (siss M v) = gcrd M := rfl
theorem ecbk_iss (M : MS) (v : Nat → Int32) : gcbk (siss M v) = gcbk M := rfl
theorem ecsv_iss (M : MS) (v : Nat → Int32) : gcsv (siss M v) = gcsv M := rfl
theorem eiss_iss (M : MS) (v : Nat → Int32) : giss (siss M v) = v := rfl
