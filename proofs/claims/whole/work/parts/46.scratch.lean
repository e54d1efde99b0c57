-- the routes' scratch: row count, length, validity, best length, pickup, drop; row, arrivals. What holds up to it
def scF (k : Nat) : Bool := k == 9 || k == 10 || k == 11 || k == 13 || k == 14 || k == 15 || k == 20
def srF (k : Nat) : Bool := k == 9 || k == 10 || k == 11
def scA (k : Nat) : Bool := k == 8 || k == 9 || k == 13
def srA (k : Nat) : Bool := k == 8 || k == 9
def Scg (P Q : Nat → Bool) (M M' : MS) : Prop := (∀ k, P k = false → mF M' k = mF M k) ∧ M'.2.1 = M.2.1 ∧ (∀ k, Q k = false → mA M' k = mA M k) ∧ M'.2.2.2 = M.2.2.2
abbrev Sc (M M' : MS) : Prop := Scg scF scA M M'
/-- all but the row's own: the best insertion stays -/
abbrev Sr (M M' : MS) : Prop := Scg srF srA M M'
theorem Scg.rf {P Q : Nat → Bool} {M : MS} : Scg P Q M M := ⟨fun _ _ => rfl, rfl, fun _ _ => rfl, rfl⟩
theorem Scg.tr {P Q : Nat → Bool} {M M1 M2 : MS} (a : Scg P Q M M1) (b : Scg P Q M1 M2) : Scg P Q M M2 := ⟨fun k h => (b.1 k h).trans (a.1 k h), b.2.1.trans a.2.1, fun k h => (b.2.2.1 k h).trans (a.2.2.1 k h), b.2.2.2.trans a.2.2.2⟩
theorem Scg.f {P Q : Nat → Bool} {M M' : MS} (s : Scg P Q M M') (k : Nat) (h : P k = false) : mF M' k = mF M k := s.1 k h
theorem Scg.a {P Q : Nat → Bool} {M M' : MS} (s : Scg P Q M M') (k : Nat) (h : Q k = false) : mA M' k = mA M k := s.2.2.1 k h
theorem Scg.l {P Q : Nat → Bool} {M M' : MS} (s : Scg P Q M M') (k : Nat) : mL M' k = mL M k := by
  show M'.2.2.2.1 k = M.2.2.2.1 k
  rw [s.2.2.2]
theorem Scg.z {P Q : Nat → Bool} {M M' : MS} (s : Scg P Q M M') : giss M' = giss M := by
  show M'.2.2.2.2 = M.2.2.2.2
  rw [s.2.2.2]
theorem Scg.w {P Q : Nat → Bool} {M M' : MS} (s : Scg P Q M M') : gwrd M' = gwrd M := s.2.1
theorem Scg.b {M M' : MS} (s : Sc M M') : gbrd M' = gbrd M := s.a 1 rfl
theorem Scg.c {P Q : Nat → Bool} {M M' : MS} (s : Scg P Q M M') : gcrd M' = gcrd M := s.l 4
theorem Scg.d {M M' : MS} (s : Sr M M') : gbrd M' = gbrd M := s.a 1 rfl
theorem Scg.sF {P Q : Nat → Bool} {M M' : MS} (s : Scg P Q M M') (k : Nat) (v : Int32) : Scg P Q (setF M k v) (setF M' k v) := by
  refine ⟨fun j h => ?_, s.2.1, s.2.2.1, s.2.2.2⟩
  show vf_upd (mF M') k v j = vf_upd (mF M) k v j
  unfold vf_upd
  split
  · rfl
  · exact s.1 j h
theorem Scg.sA {P Q : Nat → Bool} {M M' : MS} (s : Scg P Q M M') (k : Nat) (v : Nat → Int32) : Scg P Q (setA M k v) (setA M' k v) := by
  refine ⟨s.1, s.2.1, fun j h => ?_, s.2.2.2⟩
  show vf_upd (mA M') k v j = vf_upd (mA M) k v j
  unfold vf_upd
  split
  · rfl
  · exact s.2.2.1 j h
theorem Scg.sL {P Q : Nat → Bool} {M M' : MS} (s : Scg P Q M M') (k : Nat) (v : Nat → Int64) : Scg P Q (setL M k v) (setL M' k v) := by
  refine ⟨s.1, s.2.1, s.2.2.1, ?_⟩
  show (vf_upd (mL M') k v, M'.2.2.2.2) = (vf_upd (mL M) k v, M.2.2.2.2)
  have e : M'.2.2.2 = M.2.2.2 := s.2.2.2
  show (vf_upd M'.2.2.2.1 k v, M'.2.2.2.2) = (vf_upd M.2.2.2.1 k v, M.2.2.2.2)
  rw [e]
theorem Scg.wrd {P Q : Nat → Bool} {M M' : MS} (s : Scg P Q M M') (v : Int64) : Scg P Q (swrd M v) (swrd M' v) := ⟨s.1, rfl, s.2.2.1, s.2.2.2⟩
theorem Scg.iss {P Q : Nat → Bool} {M M' : MS} (s : Scg P Q M M') (v : Nat → Int32) : Scg P Q (siss M v) (siss M' v) := by
  refine ⟨s.1, s.2.1, s.2.2.1, ?_⟩
  show (M'.2.2.2.1, v) = (M.2.2.2.1, v)
  rw [s.2.2.2]
/-- the scratch itself may be written -/
theorem Scg.oF {P Q : Nat → Bool} {M M' : MS} (s : Scg P Q M M') {k : Nat} (v : Int32) (h : P k = true) : Scg P Q M (setF M' k v) := by
  refine ⟨fun j hj => ?_, s.2.1, s.2.2.1, s.2.2.2⟩
  show vf_upd (mF M') k v j = mF M j
  unfold vf_upd
  split
  · rename_i e; subst e; rw [h] at hj; cases hj
  · exact s.1 j hj
theorem Scg.oA {P Q : Nat → Bool} {M M' : MS} (s : Scg P Q M M') {k : Nat} (v : Nat → Int32) (h : Q k = true) : Scg P Q M (setA M' k v) := by
  refine ⟨s.1, s.2.1, fun j hj => ?_, s.2.2.2⟩
  show vf_upd (mA M') k v j = mA M j
  unfold vf_upd
  split
  · rename_i e; subst e; rw [h] at hj; cases hj
  · exact s.2.2.1 j hj
theorem Scg.up {M M' : MS} (s : Sr M M') : Sc M M' := by
  refine ⟨fun k h => s.1 k ?_, s.2.1, fun k h => s.2.2.1 k ?_, s.2.2.2⟩
  · unfold srF
    unfold scF at h
    revert h
    cases (k == 9) <;> cases (k == 10) <;> cases (k == 11) <;> simp
  · unfold srA
    unfold scA at h
    revert h
    cases (k == 8) <;> cases (k == 9) <;> simp
/-- the object holds M, up to the routes' scratch -/
def Ms (h0 : MH) (m : Nat) (M : MS) (h : MH) : Prop := ∃ M', Md h0 m M' h ∧ Sc M M'
theorem Md.s {h0 h : MH} {m : Nat} {M : MS} (x : Md h0 m M h) : Ms h0 m M h := ⟨M, x, Scg.rf⟩
theorem Ms.off {h0 h : MH} {m : Nat} {M : MS} (x : Ms h0 m M h) : Off m (m + 16) h0 h := by
  obtain ⟨M', y, _⟩ := x
  exact y.koff
section MSS
variable {Γ : GX} {k sl pc n : Nat} {ls : List (Nat × Value)} {st : List Value} {h h0 : MH} {m : Nat} {M : MS}
theorem mS_gthr {i : Nat} (hd : decode (mcode Γ.2.1) pc = .ok (.getfield i, 3)) (hf : FG (my Γ.2.1).cls i 11 7) (x : Ms h0 m M h) (g : GG Γ k sl (pc + 3) ls (.int (gthr M) :: st) n h) : GG Γ k sl pc ls (.ref m :: st) n h := by
  obtain ⟨M9, y, sc⟩ := x
  exact mj_getf hd hf y.ko rfl (mj_eq (sc.f 7 rfl) g)
theorem mS_pthr {i : Nat} {v : Int32} (hd : decode (mcode Γ.2.1) pc = .ok (.putfield i, 3)) (hf : FG (my Γ.2.1).cls i 11 7) (x : Ms h0 m M h) (g : ∀ h', Ms h0 m (sthr M v) h' → GG Γ k sl (pc + 3) ls st n h') : GG Γ k sl pc ls (.int v :: .ref m :: st) n h := by
  obtain ⟨M9, y, sc⟩ := x
  exact mM_pthr hd hf y (fun h z => g h ⟨_, z, sc.sF 7 v⟩)
theorem mS_gtl {i : Nat} (hd : decode (mcode Γ.2.1) pc = .ok (.getfield i, 3)) (hf : FG (my Γ.2.1).cls i 11 22) (x : Ms h0 m M h) (g : GG Γ k sl (pc + 3) ls (.int (gtl M) :: st) n h) : GG Γ k sl pc ls (.ref m :: st) n h := by
  obtain ⟨M9, y, sc⟩ := x
  exact mj_getf hd hf y.ko rfl (mj_eq (sc.f 22 rfl) g)
theorem mS_ptl {i : Nat} {v : Int32} (hd : decode (mcode Γ.2.1) pc = .ok (.putfield i, 3)) (hf : FG (my Γ.2.1).cls i 11 22) (x : Ms h0 m M h) (g : ∀ h', Ms h0 m (stl M v) h' → GG Γ k sl (pc + 3) ls st n h') : GG Γ k sl pc ls (.int v :: .ref m :: st) n h := by
  obtain ⟨M9, y, sc⟩ := x
  exact mM_ptl hd hf y (fun h z => g h ⟨_, z, sc.sF 22 v⟩)
theorem mS_gpos {i : Nat} (hd : decode (mcode Γ.2.1) pc = .ok (.getfield i, 3)) (hf : FG (my Γ.2.1).cls i 11 23) (x : Ms h0 m M h) (g : GG Γ k sl (pc + 3) ls (.int (gpos M) :: st) n h) : GG Γ k sl pc ls (.ref m :: st) n h := by
  obtain ⟨M9, y, sc⟩ := x
  exact mj_getf hd hf y.ko rfl (mj_eq (sc.f 23 rfl) g)
theorem mS_ppos {i : Nat} {v : Int32} (hd : decode (mcode Γ.2.1) pc = .ok (.putfield i, 3)) (hf : FG (my Γ.2.1).cls i 11 23) (x : Ms h0 m M h) (g : ∀ h', Ms h0 m (spos M v) h' → GG Γ k sl (pc + 3) ls st n h') : GG Γ k sl pc ls (.int v :: .ref m :: st) n h := by
  obtain ⟨M9, y, sc⟩ := x
  exact mM_ppos hd hf y (fun h z => g h ⟨_, z, sc.sF 23 v⟩)
theorem mS_gtst {i : Nat} (hd : decode (mcode Γ.2.1) pc = .ok (.getfield i, 3)) (hf : FG (my Γ.2.1).cls i 11 24) (x : Ms h0 m M h) (g : GG Γ k sl (pc + 3) ls (.int (gtst M) :: st) n h) : GG Γ k sl pc ls (.ref m :: st) n h := by
  obtain ⟨M9, y, sc⟩ := x
  exact mj_getf hd hf y.ko rfl (mj_eq (sc.f 24 rfl) g)
theorem mS_ptst {i : Nat} {v : Int32} (hd : decode (mcode Γ.2.1) pc = .ok (.putfield i, 3)) (hf : FG (my Γ.2.1).cls i 11 24) (x : Ms h0 m M h) (g : ∀ h', Ms h0 m (stst M v) h' → GG Γ k sl (pc + 3) ls st n h') : GG Γ k sl pc ls (.int v :: .ref m :: st) n h := by
  obtain ⟨M9, y, sc⟩ := x
  exact mM_ptst hd hf y (fun h z => g h ⟨_, z, sc.sF 24 v⟩)
theorem mS_gtok {i : Nat} (hd : decode (mcode Γ.2.1) pc = .ok (.getfield i, 3)) (hf : FG (my Γ.2.1).cls i 11 25) (x : Ms h0 m M h) (g : GG Γ k sl (pc + 3) ls (.int (gtok M) :: st) n h) : GG Γ k sl pc ls (.ref m :: st) n h := by
  obtain ⟨M9, y, sc⟩ := x
  exact mj_getf hd hf y.ko rfl (mj_eq (sc.f 25 rfl) g)
theorem mS_ptok {i : Nat} {v : Int32} (hd : decode (mcode Γ.2.1) pc = .ok (.putfield i, 3)) (hf : FG (my Γ.2.1).cls i 11 25) (x : Ms h0 m M h) (g : ∀ h', Ms h0 m (stok M v) h' → GG Γ k sl (pc + 3) ls st n h') : GG Γ k sl pc ls (.int v :: .ref m :: st) n h := by
  obtain ⟨M9, y, sc⟩ := x
  exact mM_ptok hd hf y (fun h z => g h ⟨_, z, sc.sF 25 v⟩)
theorem mS_glet {i : Nat} (hd : decode (mcode Γ.2.1) pc = .ok (.getfield i, 3)) (hf : FG (my Γ.2.1).cls i 11 26) (x : Ms h0 m M h) (g : GG Γ k sl (pc + 3) ls (.int (glet M) :: st) n h) : GG Γ k sl pc ls (.ref m :: st) n h := by
  obtain ⟨M9, y, sc⟩ := x
  exact mj_getf hd hf y.ko rfl (mj_eq (sc.f 26 rfl) g)
theorem mS_plet {i : Nat} {v : Int32} (hd : decode (mcode Γ.2.1) pc = .ok (.putfield i, 3)) (hf : FG (my Γ.2.1).cls i 11 26) (x : Ms h0 m M h) (g : ∀ h', Ms h0 m (slet M v) h' → GG Γ k sl (pc + 3) ls st n h') : GG Γ k sl pc ls (.int v :: .ref m :: st) n h := by
  obtain ⟨M9, y, sc⟩ := x
  exact mM_plet hd hf y (fun h z => g h ⟨_, z, sc.sF 26 v⟩)
theorem mS_gnum {i : Nat} (hd : decode (mcode Γ.2.1) pc = .ok (.getfield i, 3)) (hf : FG (my Γ.2.1).cls i 11 27) (x : Ms h0 m M h) (g : GG Γ k sl (pc + 3) ls (.int (gnum M) :: st) n h) : GG Γ k sl pc ls (.ref m :: st) n h := by
  obtain ⟨M9, y, sc⟩ := x
  exact mj_getf hd hf y.ko rfl (mj_eq (sc.f 27 rfl) g)
theorem mS_pnum {i : Nat} {v : Int32} (hd : decode (mcode Γ.2.1) pc = .ok (.putfield i, 3)) (hf : FG (my Γ.2.1).cls i 11 27) (x : Ms h0 m M h) (g : ∀ h', Ms h0 m (snum M v) h' → GG Γ k sl (pc + 3) ls st n h') : GG Γ k sl pc ls (.int v :: .ref m :: st) n h := by
  obtain ⟨M9, y, sc⟩ := x
  exact mM_pnum hd hf y (fun h z => g h ⟨_, z, sc.sF 27 v⟩)
theorem mS_gec {i : Nat} (hd : decode (mcode Γ.2.1) pc = .ok (.getfield i, 3)) (hf : FG (my Γ.2.1).cls i 11 28) (x : Ms h0 m M h) (g : GG Γ k sl (pc + 3) ls (.int (gec M) :: st) n h) : GG Γ k sl pc ls (.ref m :: st) n h := by
  obtain ⟨M9, y, sc⟩ := x
  exact mj_getf hd hf y.ko rfl (mj_eq (sc.f 28 rfl) g)
theorem mS_pec {i : Nat} {v : Int32} (hd : decode (mcode Γ.2.1) pc = .ok (.putfield i, 3)) (hf : FG (my Γ.2.1).cls i 11 28) (x : Ms h0 m M h) (g : ∀ h', Ms h0 m (sec M v) h' → GG Γ k sl (pc + 3) ls st n h') : GG Γ k sl pc ls (.int v :: .ref m :: st) n h := by
  obtain ⟨M9, y, sc⟩ := x
  exact mM_pec hd hf y (fun h z => g h ⟨_, z, sc.sF 28 v⟩)
theorem mS_gep {i : Nat} (hd : decode (mcode Γ.2.1) pc = .ok (.getfield i, 3)) (hf : FG (my Γ.2.1).cls i 11 29) (x : Ms h0 m M h) (g : GG Γ k sl (pc + 3) ls (.int (gep M) :: st) n h) : GG Γ k sl pc ls (.ref m :: st) n h := by
  obtain ⟨M9, y, sc⟩ := x
  exact mj_getf hd hf y.ko rfl (mj_eq (sc.f 29 rfl) g)
theorem mS_pep {i : Nat} {v : Int32} (hd : decode (mcode Γ.2.1) pc = .ok (.putfield i, 3)) (hf : FG (my Γ.2.1).cls i 11 29) (x : Ms h0 m M h) (g : ∀ h', Ms h0 m (sep M v) h' → GG Γ k sl (pc + 3) ls st n h') : GG Γ k sl pc ls (.int v :: .ref m :: st) n h := by
  obtain ⟨M9, y, sc⟩ := x
  exact mM_pep hd hf y (fun h z => g h ⟨_, z, sc.sF 29 v⟩)
theorem mS_gwrd {i : Nat} (hd : decode (mcode Γ.2.1) pc = .ok (.getfield i, 3)) (hf : FG (my Γ.2.1).cls i 11 30) (x : Ms h0 m M h) (g : GG Γ k sl (pc + 3) ls (.long (gwrd M) :: st) n h) : GG Γ k sl pc ls (.ref m :: st) n h := by
  obtain ⟨M9, y, sc⟩ := x
  exact mj_getf hd hf y.ko rfl (mj_eql sc.w g)
theorem mS_pwrd {i : Nat} {v : Int64} (hd : decode (mcode Γ.2.1) pc = .ok (.putfield i, 3)) (hf : FG (my Γ.2.1).cls i 11 30) (x : Ms h0 m M h) (g : ∀ h', Ms h0 m (swrd M v) h' → GG Γ k sl (pc + 3) ls st n h') : GG Γ k sl pc ls (.long v :: .ref m :: st) n h := by
  obtain ⟨M9, y, sc⟩ := x
  exact mM_pwrd hd hf y (fun h z => g h ⟨_, z, sc.wrd v⟩)
theorem mS_gbrd {i : Nat} (hd : decode (mcode Γ.2.1) pc = .ok (.getfield i, 3)) (hf : FG (my Γ.2.1).cls i 11 0) (x : Ms h0 m M h) (g : GG Γ k sl (pc + 3) ls (.ref (m + 1) :: st) n h) : GG Γ k sl pc ls (.ref m :: st) n h := by
  obtain ⟨M9, y, sc⟩ := x
  exact mj_getf hd hf y.ko rfl g
theorem mS_lbrd {i : Int32} {j : Nat} (x : Ms h0 m M h) (hi : i.toInt = (j : Int)) (hj : j < 568) (hd : decode (mcode Γ.2.1) pc = .ok (.iaload, 1)) (g : GG Γ k sl (pc + 1) ls (.int (gbrd M j) :: st) n h) : GG Γ k sl pc ls (.int i :: .ref (m + 1) :: st) n h := by
  obtain ⟨M9, y, sc⟩ := x
  exact mj_iald y.kbrd hi hj hd (mj_eq (congrFun (sc.a 1 rfl) j) g)
theorem mS_abrd {i : Int32} {v : Int32} {j : Nat} (x : Ms h0 m M h) (hi : i.toInt = (j : Int)) (hj : j < 568) (hd : decode (mcode Γ.2.1) pc = .ok (.iastore, 1)) (g : ∀ h', Ms h0 m (sbrd M (upd (gbrd M) j v)) h' → GG Γ k sl (pc + 1) ls st n h') : GG Γ k sl pc ls (.int v :: .int i :: .ref (m + 1) :: st) n h := by
  obtain ⟨M9, y, sc⟩ := x
  refine mM_abrd y hi hj hd (fun h z => g h ⟨_, z, ?_⟩)
  have e : gbrd M9 = gbrd M := sc.a 1 rfl
  rw [e]
  exact sc.sA 1 _
theorem mS_gbak {i : Nat} (hd : decode (mcode Γ.2.1) pc = .ok (.getfield i, 3)) (hf : FG (my Γ.2.1).cls i 11 1) (x : Ms h0 m M h) (g : GG Γ k sl (pc + 3) ls (.ref (m + 2) :: st) n h) : GG Γ k sl pc ls (.ref m :: st) n h := by
  obtain ⟨M9, y, sc⟩ := x
  exact mj_getf hd hf y.ko rfl g
theorem mS_lbak {i : Int32} {j : Nat} (x : Ms h0 m M h) (hi : i.toInt = (j : Int)) (hj : j < 568) (hd : decode (mcode Γ.2.1) pc = .ok (.iaload, 1)) (g : GG Γ k sl (pc + 1) ls (.int (gbak M j) :: st) n h) : GG Γ k sl pc ls (.int i :: .ref (m + 2) :: st) n h := by
  obtain ⟨M9, y, sc⟩ := x
  exact mj_iald y.kbak hi hj hd (mj_eq (congrFun (sc.a 2 rfl) j) g)
theorem mS_abak {i : Int32} {v : Int32} {j : Nat} (x : Ms h0 m M h) (hi : i.toInt = (j : Int)) (hj : j < 568) (hd : decode (mcode Γ.2.1) pc = .ok (.iastore, 1)) (g : ∀ h', Ms h0 m (sbak M (upd (gbak M) j v)) h' → GG Γ k sl (pc + 1) ls st n h') : GG Γ k sl pc ls (.int v :: .int i :: .ref (m + 2) :: st) n h := by
  obtain ⟨M9, y, sc⟩ := x
  refine mM_abak y hi hj hd (fun h z => g h ⟨_, z, ?_⟩)
  have e : gbak M9 = gbak M := sc.a 2 rfl
  rw [e]
  exact sc.sA 2 _
theorem mS_gsav {i : Nat} (hd : decode (mcode Γ.2.1) pc = .ok (.getfield i, 3)) (hf : FG (my Γ.2.1).cls i 11 2) (x : Ms h0 m M h) (g : GG Γ k sl (pc + 3) ls (.ref (m + 3) :: st) n h) : GG Γ k sl pc ls (.ref m :: st) n h := by
  obtain ⟨M9, y, sc⟩ := x
  exact mj_getf hd hf y.ko rfl g
theorem mS_lsav {i : Int32} {j : Nat} (x : Ms h0 m M h) (hi : i.toInt = (j : Int)) (hj : j < 1136) (hd : decode (mcode Γ.2.1) pc = .ok (.iaload, 1)) (g : GG Γ k sl (pc + 1) ls (.int (gsav M j) :: st) n h) : GG Γ k sl pc ls (.int i :: .ref (m + 3) :: st) n h := by
  obtain ⟨M9, y, sc⟩ := x
  exact mj_iald y.ksav hi hj hd (mj_eq (congrFun (sc.a 3 rfl) j) g)
theorem mS_asav {i : Int32} {v : Int32} {j : Nat} (x : Ms h0 m M h) (hi : i.toInt = (j : Int)) (hj : j < 1136) (hd : decode (mcode Γ.2.1) pc = .ok (.iastore, 1)) (g : ∀ h', Ms h0 m (ssav M (upd (gsav M) j v)) h' → GG Γ k sl (pc + 1) ls st n h') : GG Γ k sl pc ls (.int v :: .int i :: .ref (m + 3) :: st) n h := by
  obtain ⟨M9, y, sc⟩ := x
  refine mM_asav y hi hj hd (fun h z => g h ⟨_, z, ?_⟩)
  have e : gsav M9 = gsav M := sc.a 3 rfl
  rw [e]
  exact sc.sA 3 _
theorem mS_gsol {i : Nat} (hd : decode (mcode Γ.2.1) pc = .ok (.getfield i, 3)) (hf : FG (my Γ.2.1).cls i 11 16) (x : Ms h0 m M h) (g : GG Γ k sl (pc + 3) ls (.ref (m + 10) :: st) n h) : GG Γ k sl pc ls (.ref m :: st) n h := by
  obtain ⟨M9, y, sc⟩ := x
  exact mj_getf hd hf y.ko rfl g
theorem mS_lsol {i : Int32} {j : Nat} (x : Ms h0 m M h) (hi : i.toInt = (j : Int)) (hj : j < 160) (hd : decode (mcode Γ.2.1) pc = .ok (.iaload, 1)) (g : GG Γ k sl (pc + 1) ls (.int (gsol M j) :: st) n h) : GG Γ k sl pc ls (.int i :: .ref (m + 10) :: st) n h := by
  obtain ⟨M9, y, sc⟩ := x
  exact mj_iald y.ksol hi hj hd (mj_eq (congrFun (sc.a 10 rfl) j) g)
theorem mS_asol {i : Int32} {v : Int32} {j : Nat} (x : Ms h0 m M h) (hi : i.toInt = (j : Int)) (hj : j < 160) (hd : decode (mcode Γ.2.1) pc = .ok (.iastore, 1)) (g : ∀ h', Ms h0 m (ssol M (upd (gsol M) j v)) h' → GG Γ k sl (pc + 1) ls st n h') : GG Γ k sl pc ls (.int v :: .int i :: .ref (m + 10) :: st) n h := by
  obtain ⟨M9, y, sc⟩ := x
  refine mM_asol y hi hj hd (fun h z => g h ⟨_, z, ?_⟩)
  have e : gsol M9 = gsol M := sc.a 10 rfl
  rw [e]
  exact sc.sA 10 _
theorem mS_ghol {i : Nat} (hd : decode (mcode Γ.2.1) pc = .ok (.getfield i, 3)) (hf : FG (my Γ.2.1).cls i 11 17) (x : Ms h0 m M h) (g : GG Γ k sl (pc + 3) ls (.ref (m + 11) :: st) n h) : GG Γ k sl pc ls (.ref m :: st) n h := by
  obtain ⟨M9, y, sc⟩ := x
  exact mj_getf hd hf y.ko rfl g
theorem mS_lhol {i : Int32} {j : Nat} (x : Ms h0 m M h) (hi : i.toInt = (j : Int)) (hj : j < 20) (hd : decode (mcode Γ.2.1) pc = .ok (.iaload, 1)) (g : GG Γ k sl (pc + 1) ls (.int (ghol M j) :: st) n h) : GG Γ k sl pc ls (.int i :: .ref (m + 11) :: st) n h := by
  obtain ⟨M9, y, sc⟩ := x
  exact mj_iald y.khol hi hj hd (mj_eq (congrFun (sc.a 11 rfl) j) g)
theorem mS_ahol {i : Int32} {v : Int32} {j : Nat} (x : Ms h0 m M h) (hi : i.toInt = (j : Int)) (hj : j < 20) (hd : decode (mcode Γ.2.1) pc = .ok (.iastore, 1)) (g : ∀ h', Ms h0 m (shol M (upd (ghol M) j v)) h' → GG Γ k sl (pc + 1) ls st n h') : GG Γ k sl pc ls (.int v :: .int i :: .ref (m + 11) :: st) n h := by
  obtain ⟨M9, y, sc⟩ := x
  refine mM_ahol y hi hj hd (fun h z => g h ⟨_, z, ?_⟩)
  have e : ghol M9 = ghol M := sc.a 11 rfl
  rw [e]
  exact sc.sA 11 _
theorem mS_gask {i : Nat} (hd : decode (mcode Γ.2.1) pc = .ok (.getfield i, 3)) (hf : FG (my Γ.2.1).cls i 11 18) (x : Ms h0 m M h) (g : GG Γ k sl (pc + 3) ls (.ref (m + 12) :: st) n h) : GG Γ k sl pc ls (.ref m :: st) n h := by
  obtain ⟨M9, y, sc⟩ := x
  exact mj_getf hd hf y.ko rfl g
theorem mS_lask {i : Int32} {j : Nat} (x : Ms h0 m M h) (hi : i.toInt = (j : Int)) (hj : j < 20) (hd : decode (mcode Γ.2.1) pc = .ok (.iaload, 1)) (g : GG Γ k sl (pc + 1) ls (.int (gask M j) :: st) n h) : GG Γ k sl pc ls (.int i :: .ref (m + 12) :: st) n h := by
  obtain ⟨M9, y, sc⟩ := x
  exact mj_iald y.kask hi hj hd (mj_eq (congrFun (sc.a 12 rfl) j) g)
theorem mS_aask {i : Int32} {v : Int32} {j : Nat} (x : Ms h0 m M h) (hi : i.toInt = (j : Int)) (hj : j < 20) (hd : decode (mcode Γ.2.1) pc = .ok (.iastore, 1)) (g : ∀ h', Ms h0 m (sask M (upd (gask M) j v)) h' → GG Γ k sl (pc + 1) ls st n h') : GG Γ k sl pc ls (.int v :: .int i :: .ref (m + 12) :: st) n h := by
  obtain ⟨M9, y, sc⟩ := x
  refine mM_aask y hi hj hd (fun h z => g h ⟨_, z, ?_⟩)
  have e : gask M9 = gask M := sc.a 12 rfl
  rw [e]
  exact sc.sA 12 _
theorem mS_gtxt {i : Nat} (hd : decode (mcode Γ.2.1) pc = .ok (.getfield i, 3)) (hf : FG (my Γ.2.1).cls i 11 21) (x : Ms h0 m M h) (g : GG Γ k sl (pc + 3) ls (.ref (m + 14) :: st) n h) : GG Γ k sl pc ls (.ref m :: st) n h := by
  obtain ⟨M9, y, sc⟩ := x
  exact mj_getf hd hf y.ko rfl g
theorem mS_ltxt {i : Int32} {j : Nat} (x : Ms h0 m M h) (hi : i.toInt = (j : Int)) (hj : j < 600) (hd : decode (mcode Γ.2.1) pc = .ok (.iaload, 1)) (g : GG Γ k sl (pc + 1) ls (.int (gtxt M j) :: st) n h) : GG Γ k sl pc ls (.int i :: .ref (m + 14) :: st) n h := by
  obtain ⟨M9, y, sc⟩ := x
  exact mj_iald y.ktxt hi hj hd (mj_eq (congrFun (sc.a 14 rfl) j) g)
theorem mS_atxt {i : Int32} {v : Int32} {j : Nat} (x : Ms h0 m M h) (hi : i.toInt = (j : Int)) (hj : j < 600) (hd : decode (mcode Γ.2.1) pc = .ok (.iastore, 1)) (g : ∀ h', Ms h0 m (stxt M (upd (gtxt M) j v)) h' → GG Γ k sl (pc + 1) ls st n h') : GG Γ k sl pc ls (.int v :: .int i :: .ref (m + 14) :: st) n h := by
  obtain ⟨M9, y, sc⟩ := x
  refine mM_atxt y hi hj hd (fun h z => g h ⟨_, z, ?_⟩)
  have e : gtxt M9 = gtxt M := sc.a 14 rfl
  rw [e]
  exact sc.sA 14 _
theorem mS_gplc {i : Nat} (hd : decode (mcode Γ.2.1) pc = .ok (.getfield i, 3)) (hf : FG (my Γ.2.1).cls i 11 31) (x : Ms h0 m M h) (g : GG Γ k sl (pc + 3) ls (.ref (m + 15) :: st) n h) : GG Γ k sl pc ls (.ref m :: st) n h := by
  obtain ⟨M9, y, sc⟩ := x
  exact mj_getf hd hf y.ko rfl g
theorem mS_lplc {i : Int32} {j : Nat} (x : Ms h0 m M h) (hi : i.toInt = (j : Int)) (hj : j < 4) (hd : decode (mcode Γ.2.1) pc = .ok (.iaload, 1)) (g : GG Γ k sl (pc + 1) ls (.int (gplc M j) :: st) n h) : GG Γ k sl pc ls (.int i :: .ref (m + 15) :: st) n h := by
  obtain ⟨M9, y, sc⟩ := x
  exact mj_iald y.kplc hi hj hd (mj_eq (congrFun (sc.a 15 rfl) j) g)
theorem mS_aplc {i : Int32} {v : Int32} {j : Nat} (x : Ms h0 m M h) (hi : i.toInt = (j : Int)) (hj : j < 4) (hd : decode (mcode Γ.2.1) pc = .ok (.iastore, 1)) (g : ∀ h', Ms h0 m (splc M (upd (gplc M) j v)) h' → GG Γ k sl (pc + 1) ls st n h') : GG Γ k sl pc ls (.int v :: .int i :: .ref (m + 15) :: st) n h := by
  obtain ⟨M9, y, sc⟩ := x
  refine mM_aplc y hi hj hd (fun h z => g h ⟨_, z, ?_⟩)
  have e : gplc M9 = gplc M := sc.a 15 rfl
  rw [e]
  exact sc.sA 15 _
theorem mS_gcrd {i : Nat} (hd : decode (mcode Γ.2.1) pc = .ok (.getfield i, 3)) (hf : FG (my Γ.2.1).cls i 11 3) (x : Ms h0 m M h) (g : GG Γ k sl (pc + 3) ls (.ref (m + 4) :: st) n h) : GG Γ k sl pc ls (.ref m :: st) n h := by
  obtain ⟨M9, y, sc⟩ := x
  exact mj_getf hd hf y.ko rfl g
theorem mS_lcrd {i : Int32} {j : Nat} (x : Ms h0 m M h) (hi : i.toInt = (j : Int)) (hj : j < 28) (hd : decode (mcode Γ.2.1) pc = .ok (.laload, 1)) (g : GG Γ k sl (pc + 1) ls (.long (gcrd M j) :: st) n h) : GG Γ k sl pc ls (.int i :: .ref (m + 4) :: st) n h := by
  obtain ⟨M9, y, sc⟩ := x
  exact mj_lald y.kcrd hi hj hd (mj_eql (congrFun (sc.l 4) j) g)
theorem mS_acrd {i : Int32} {v : Int64} {j : Nat} (x : Ms h0 m M h) (hi : i.toInt = (j : Int)) (hj : j < 28) (hd : decode (mcode Γ.2.1) pc = .ok (.lastore, 1)) (g : ∀ h', Ms h0 m (scrd M (vp_updL (gcrd M) j v)) h' → GG Γ k sl (pc + 1) ls st n h') : GG Γ k sl pc ls (.long v :: .int i :: .ref (m + 4) :: st) n h := by
  obtain ⟨M9, y, sc⟩ := x
  refine mM_acrd y hi hj hd (fun h z => g h ⟨_, z, ?_⟩)
  have e : gcrd M9 = gcrd M := sc.l 4
  rw [e]
  exact sc.sL 4 _
theorem mS_gcbk {i : Nat} (hd : decode (mcode Γ.2.1) pc = .ok (.getfield i, 3)) (hf : FG (my Γ.2.1).cls i 11 4) (x : Ms h0 m M h) (g : GG Γ k sl (pc + 3) ls (.ref (m + 5) :: st) n h) : GG Γ k sl pc ls (.ref m :: st) n h := by
  obtain ⟨M9, y, sc⟩ := x
  exact mj_getf hd hf y.ko rfl g
theorem mS_lcbk {i : Int32} {j : Nat} (x : Ms h0 m M h) (hi : i.toInt = (j : Int)) (hj : j < 28) (hd : decode (mcode Γ.2.1) pc = .ok (.laload, 1)) (g : GG Γ k sl (pc + 1) ls (.long (gcbk M j) :: st) n h) : GG Γ k sl pc ls (.int i :: .ref (m + 5) :: st) n h := by
  obtain ⟨M9, y, sc⟩ := x
  exact mj_lald y.kcbk hi hj hd (mj_eql (congrFun (sc.l 5) j) g)
theorem mS_acbk {i : Int32} {v : Int64} {j : Nat} (x : Ms h0 m M h) (hi : i.toInt = (j : Int)) (hj : j < 28) (hd : decode (mcode Γ.2.1) pc = .ok (.lastore, 1)) (g : ∀ h', Ms h0 m (scbk M (vp_updL (gcbk M) j v)) h' → GG Γ k sl (pc + 1) ls st n h') : GG Γ k sl pc ls (.long v :: .int i :: .ref (m + 5) :: st) n h := by
  obtain ⟨M9, y, sc⟩ := x
  refine mM_acbk y hi hj hd (fun h z => g h ⟨_, z, ?_⟩)
  have e : gcbk M9 = gcbk M := sc.l 5
  rw [e]
  exact sc.sL 5 _
theorem mS_gcsv {i : Nat} (hd : decode (mcode Γ.2.1) pc = .ok (.getfield i, 3)) (hf : FG (my Γ.2.1).cls i 11 5) (x : Ms h0 m M h) (g : GG Γ k sl (pc + 3) ls (.ref (m + 6) :: st) n h) : GG Γ k sl pc ls (.ref m :: st) n h := by
  obtain ⟨M9, y, sc⟩ := x
  exact mj_getf hd hf y.ko rfl g
theorem mS_lcsv {i : Int32} {j : Nat} (x : Ms h0 m M h) (hi : i.toInt = (j : Int)) (hj : j < 56) (hd : decode (mcode Γ.2.1) pc = .ok (.laload, 1)) (g : GG Γ k sl (pc + 1) ls (.long (gcsv M j) :: st) n h) : GG Γ k sl pc ls (.int i :: .ref (m + 6) :: st) n h := by
  obtain ⟨M9, y, sc⟩ := x
  exact mj_lald y.kcsv hi hj hd (mj_eql (congrFun (sc.l 6) j) g)
theorem mS_acsv {i : Int32} {v : Int64} {j : Nat} (x : Ms h0 m M h) (hi : i.toInt = (j : Int)) (hj : j < 56) (hd : decode (mcode Γ.2.1) pc = .ok (.lastore, 1)) (g : ∀ h', Ms h0 m (scsv M (vp_updL (gcsv M) j v)) h' → GG Γ k sl (pc + 1) ls st n h') : GG Γ k sl pc ls (.long v :: .int i :: .ref (m + 6) :: st) n h := by
  obtain ⟨M9, y, sc⟩ := x
  refine mM_acsv y hi hj hd (fun h z => g h ⟨_, z, ?_⟩)
  have e : gcsv M9 = gcsv M := sc.l 6
  rw [e]
  exact sc.sL 6 _
theorem mS_giss {i : Nat} (hd : decode (mcode Γ.2.1) pc = .ok (.getfield i, 3)) (hf : FG (my Γ.2.1).cls i 11 6) (x : Ms h0 m M h) (g : GG Γ k sl (pc + 3) ls (.ref (m + 7) :: st) n h) : GG Γ k sl pc ls (.ref m :: st) n h := by
  obtain ⟨M9, y, sc⟩ := x
  exact mj_getf hd hf y.ko rfl g
theorem mS_liss {i : Int32} {j : Nat} (x : Ms h0 m M h) (hi : i.toInt = (j : Int)) (hj : j < 2) (hd : decode (mcode Γ.2.1) pc = .ok (.baload, 1)) (g : GG Γ k sl (pc + 1) ls (.int (giss M j) :: st) n h) : GG Γ k sl pc ls (.int i :: .ref (m + 7) :: st) n h := by
  obtain ⟨M9, y, sc⟩ := x
  exact mj_zald y.kiss hi hj hd (mj_eq (congrFun sc.z j) g)
theorem mS_aiss {i : Int32} {v : Int32} {j : Nat} (x : Ms h0 m M h) (hi : i.toInt = (j : Int)) (hj : j < 2) (hd : decode (mcode Γ.2.1) pc = .ok (.bastore, 1)) (hx : narrow .boolean (.int v) = .int v) (g : ∀ h', Ms h0 m (siss M (upd (giss M) j v)) h' → GG Γ k sl (pc + 1) ls st n h') : GG Γ k sl pc ls (.int v :: .int i :: .ref (m + 7) :: st) n h := by
  obtain ⟨M9, y, sc⟩ := x
  refine mM_aiss y hi hj hd hx (fun h z => g h ⟨_, z, ?_⟩)
  have e : giss M9 = giss M := sc.z
  rw [e]
  exact sc.iss _
theorem mS_cV1 {i : Nat} {M' : MI} {rest : List Value} {mc' ms' n' : Nat} {P : MH → Prop} {v : Value} (x : Ms h0 m M h) (As : List Value) (hd : decode (mcode Γ.2.1) pc = .ok (.invokevirtual i, 3)) (cw : CVw M' As.length) (hlk : LK (my Γ.2.1).cls i (my M')) (hrc : RX11 = (my M').cls) (hnt : mhh M' = []) (hst : st = As.reverse ++ .ref m :: rest) (hcon : Con Γ.1 M' (.ref m :: As) mc' ms' n h (RetP (some v) n' P)) (sd : Sd Γ M' k sl mc' ms' rest) (g : ∀ h', P h' → GG Γ (k + mc') (sl + ms') (pc + 3) ls (v :: rest) n' h') : GG Γ k sl pc ls st n h := by
  obtain ⟨M9, y, sc⟩ := x
  exact mj_cV1 As (RX11, TX11, 32) hd cw hlk y.ko rfl hrc hnt hst hcon sd g
theorem mS_cV0 {i : Nat} {M' : MI} {rest : List Value} {mc' ms' n' : Nat} {P : MH → Prop} (x : Ms h0 m M h) (As : List Value) (hd : decode (mcode Γ.2.1) pc = .ok (.invokevirtual i, 3)) (cw : CVw M' As.length) (hlk : LK (my Γ.2.1).cls i (my M')) (hrc : RX11 = (my M').cls) (hnt : mhh M' = []) (hst : st = As.reverse ++ .ref m :: rest) (hcon : Con Γ.1 M' (.ref m :: As) mc' ms' n h (RetP none n' P)) (sd : Sd Γ M' k sl mc' ms' rest) (g : ∀ h', P h' → GG Γ (k + mc') (sl + ms') (pc + 3) ls (rest) n' h') : GG Γ k sl pc ls st n h := by
  obtain ⟨M9, y, sc⟩ := x
  exact mj_cV0 As (RX11, TX11, 32) hd cw hlk y.ko rfl hrc hnt hst hcon sd g
end MSS
theorem lift_s {K : KX} {X : MI} {av : List Value} {mc ms n : Nat} {Q : RQ} {h h0 : MH} {m : Nat} {M : MS} (x : Ms h0 m M h) (c : ∀ M', Md h0 m M' h → Sc M M' → Con K X av mc ms n h Q) : Con K X av mc ms n h Q := by
  obtain ⟨M', y, sc⟩ := x
  exact c M' y sc
theorem lift_r {K : KX} {X : MI} {av : List Value} {mc ms n n1 : Nat} {h h0 : MH} {m : Nat} {M1 M2 : MS} {v1 v2 : Option Value} (c : Con K X av mc ms n h (RetP v1 n1 (Md h0 m M1))) (hv : v1 = v2) (sc : Sc M2 M1) : Con K X av mc ms n h (RetP v2 n1 (Ms h0 m M2)) := c.mono fun r n' h' q => ⟨hv ▸ q.1, q.2.1, M1, q.2.2, sc⟩
theorem cs_thrown {K : KX} {n : Nat} {h h0 : MH} {m : Nat} {M : MS} (x : Ms h0 m M h) : Con K mX11_thrown [.ref m] 0 0 n h (RetP (some (.int (gthr M))) n (Ms h0 m (M))) := by
  refine lift_s x fun M9 y sc => lift_r (cn_X11_thrown y) ?_ ?_
  · have e1 : gbrd M9 = gbrd M := sc.b
    have e2 : gsol M9 = gsol M := sc.a 10 rfl
    have e3 : gcrd M9 = gcrd M := sc.c
    have e4 : gthr M9 = gthr M := sc.f 7 rfl
    first | (simp only [dF, rF, sF, e1, e2, e3, e4]; done) | (simp only [dF, rF, sF, e1, e2, e3, e4]; rfl)
  · exact sc
theorem cs_fail {K : KX} {n : Nat} {h h0 : MH} {m : Nat} {M : MS} (x : Ms h0 m M h) {v : Int32} : Con K mX11_fail [.ref m, .int v] 0 0 n h (RetP (some (.int (0))) n (Ms h0 m (sthr M v))) := by
  refine lift_s x fun M9 y sc => lift_r (cn_X11_fail y) ?_ ?_
  · rfl
  · exact (sc.sF 7 _)
theorem cs_driver {K : KX} {n : Nat} {h h0 : MH} {m : Nat} {M : MS} (x : Ms h0 m M h) {d f : Nat} (hd : d < 8) (hf : f < 10) : Con K mX11_driver [.ref m, .int (nI d), .int (nI f)] 0 0 n h (RetP (some (.int (dF M d f))) n (Ms h0 m (M))) := by
  refine lift_s x fun M9 y sc => lift_r (cn_X11_driver y hd hf) ?_ ?_
  · have e1 : gbrd M9 = gbrd M := sc.b
    have e2 : gsol M9 = gsol M := sc.a 10 rfl
    have e3 : gcrd M9 = gcrd M := sc.c
    have e4 : gthr M9 = gthr M := sc.f 7 rfl
    first | (simp only [dF, rF, sF, e1, e2, e3, e4]; done) | (simp only [dF, rF, sF, e1, e2, e3, e4]; rfl)
  · exact sc
theorem cs_rider {K : KX} {n : Nat} {h h0 : MH} {m : Nat} {M : MS} (x : Ms h0 m M h) {r f : Nat} (hr : r < 20) (hf : f < 8) : Con K mX11_rider [.ref m, .int (nI r), .int (nI f)] 0 0 n h (RetP (some (.int (rF M r f))) n (Ms h0 m (M))) := by
  refine lift_s x fun M9 y sc => lift_r (cn_X11_rider y hr hf) ?_ ?_
  · have e1 : gbrd M9 = gbrd M := sc.b
    have e2 : gsol M9 = gsol M := sc.a 10 rfl
    have e3 : gcrd M9 = gcrd M := sc.c
    have e4 : gthr M9 = gthr M := sc.f 7 rfl
    first | (simp only [dF, rF, sF, e1, e2, e3, e4]; done) | (simp only [dF, rF, sF, e1, e2, e3, e4]; rfl)
  · exact sc
theorem cs_stop {K : KX} {n : Nat} {h h0 : MH} {m : Nat} {M : MS} (x : Ms h0 m M h) {d i : Nat} (hd : d < 8) (hi : i < 40) : Con K mX11_stop [.ref m, .int (nI d), .int (nI i)] 0 0 n h (RetP (some (.int (sF M d i))) n (Ms h0 m (M))) := by
  refine lift_s x fun M9 y sc => lift_r (cn_X11_stop y hd hi) ?_ ?_
  · have e1 : gbrd M9 = gbrd M := sc.b
    have e2 : gsol M9 = gsol M := sc.a 10 rfl
    have e3 : gcrd M9 = gcrd M := sc.c
    have e4 : gthr M9 = gthr M := sc.f 7 rfl
    first | (simp only [dF, rF, sF, e1, e2, e3, e4]; done) | (simp only [dF, rF, sF, e1, e2, e3, e4]; rfl)
  · exact sc
theorem cs_setDriver {K : KX} {n : Nat} {h h0 : MH} {m : Nat} {M : MS} (x : Ms h0 m M h) {d f : Nat} {v : Int32} (hd : d < 8) (hf : f < 10) : Con K mX11_setDriver [.ref m, .int (nI d), .int (nI f), .int v] 0 0 n h (RetP (none) n (Ms h0 m (wD M d f v))) := by
  refine lift_s x fun M9 y sc => lift_r (cn_X11_setDriver y hd hf) ?_ ?_
  · rfl
  · exact (by have e1 : gbrd M9 = gbrd M := sc.b; unfold wD; rw [e1]; exact sc.sA 1 _)
theorem cs_setRider {K : KX} {n : Nat} {h h0 : MH} {m : Nat} {M : MS} (x : Ms h0 m M h) {r f : Nat} {v : Int32} (hr : r < 20) (hf : f < 8) : Con K mX11_setRider [.ref m, .int (nI r), .int (nI f), .int v] 0 0 n h (RetP (none) n (Ms h0 m (wR M r f v))) := by
  refine lift_s x fun M9 y sc => lift_r (cn_X11_setRider y hr hf) ?_ ?_
  · rfl
  · exact (by have e1 : gbrd M9 = gbrd M := sc.b; unfold wR; rw [e1]; exact sc.sA 1 _)
theorem cs_isDriver {K : KX} {n : Nat} {h h0 : MH} {m : Nat} {M : MS} (x : Ms h0 m M h) {i : Int32} : Con K mX11_isDriver [.ref m, .int i] 0 0 n h (RetP (some (.int (bI (b_in i 0 (gbrd M 1 - 1))))) n (Ms h0 m (M))) := by
  refine lift_s x fun M9 y sc => lift_r (cn_X11_isDriver y) ?_ ?_
  · have e1 : gbrd M9 = gbrd M := sc.b
    have e2 : gsol M9 = gsol M := sc.a 10 rfl
    have e3 : gcrd M9 = gcrd M := sc.c
    have e4 : gthr M9 = gthr M := sc.f 7 rfl
    first | (simp only [dF, rF, sF, e1, e2, e3, e4]; done) | (simp only [dF, rF, sF, e1, e2, e3, e4]; rfl)
  · exact sc
theorem cs_isRider {K : KX} {n : Nat} {h h0 : MH} {m : Nat} {M : MS} (x : Ms h0 m M h) {i : Int32} : Con K mX11_isRider [.ref m, .int i] 0 0 n h (RetP (some (.int (bI (b_in i 0 (gbrd M 2 - 1))))) n (Ms h0 m (M))) := by
  refine lift_s x fun M9 y sc => lift_r (cn_X11_isRider y) ?_ ?_
  · have e1 : gbrd M9 = gbrd M := sc.b
    have e2 : gsol M9 = gsol M := sc.a 10 rfl
    have e3 : gcrd M9 = gcrd M := sc.c
    have e4 : gthr M9 = gthr M := sc.f 7 rfl
    first | (simp only [dF, rF, sF, e1, e2, e3, e4]; done) | (simp only [dF, rF, sF, e1, e2, e3, e4]; rfl)
  · exact sc
theorem cs_isOpen {K : KX} {n : Nat} {h h0 : MH} {m : Nat} {M : MS} (x : Ms h0 m M h) {d : Nat} (hd : d < 8) : Con K mX11_isOpen [.ref m, .int (nI d)] 0 0 n h (RetP (some (.int (bI (decide (dF M d 8 = 0))))) n (Ms h0 m (M))) := by
  refine lift_s x fun M9 y sc => lift_r (cn_X11_isOpen y hd) ?_ ?_
  · have e1 : gbrd M9 = gbrd M := sc.b
    have e2 : gsol M9 = gsol M := sc.a 10 rfl
    have e3 : gcrd M9 = gcrd M := sc.c
    have e4 : gthr M9 = gthr M := sc.f 7 rfl
    first | (simp only [dF, rF, sF, e1, e2, e3, e4]; done) | (simp only [dF, rF, sF, e1, e2, e3, e4]; rfl)
  · exact sc
theorem cs_isIn {K : KX} {n : Nat} {h h0 : MH} {m : Nat} {M : MS} (x : Ms h0 m M h) {r : Nat} {i : Int32} (hr : r < 20) : Con K mX11_isIn [.ref m, .int (nI r), .int i] 0 0 n h (RetP (some (.int (bI (decide (rF M r 7 = i))))) n (Ms h0 m (M))) := by
  refine lift_s x fun M9 y sc => lift_r (cn_X11_isIn y hr) ?_ ?_
  · have e1 : gbrd M9 = gbrd M := sc.b
    have e2 : gsol M9 = gsol M := sc.a 10 rfl
    have e3 : gcrd M9 = gcrd M := sc.c
    have e4 : gthr M9 = gthr M := sc.f 7 rfl
    first | (simp only [dF, rF, sF, e1, e2, e3, e4]; done) | (simp only [dF, rF, sF, e1, e2, e3, e4]; rfl)
  · exact sc
theorem cs_directLength {K : KX} {n : Nat} {h h0 : MH} {m : Nat} {M : MS} (x : Ms h0 m M h) {d : Nat} (hd : d < 8) : Con K mX11_directLength [.ref m, .int (nI d)] 0 0 n h (RetP (some (.int (i_dist (dF M d 0) (dF M d 1) (dF M d 2) (dF M d 3)))) n (Ms h0 m (M))) := by
  refine lift_s x fun M9 y sc => lift_r (cn_X11_directLength y hd) ?_ ?_
  · have e1 : gbrd M9 = gbrd M := sc.b
    have e2 : gsol M9 = gsol M := sc.a 10 rfl
    have e3 : gcrd M9 = gcrd M := sc.c
    have e4 : gthr M9 = gthr M := sc.f 7 rfl
    first | (simp only [dF, rF, sF, e1, e2, e3, e4]; done) | (simp only [dF, rF, sF, e1, e2, e3, e4]; rfl)
  · exact sc
theorem cs_takesPart {K : KX} {n : Nat} {h h0 : MH} {m : Nat} {M : MS} (x : Ms h0 m M h) {r : Nat} (hr : r < 20) : Con K mX11_takesPart [.ref m, .int (nI r)] 0 0 n h (RetP (some (.int (bI (decide (rF M r 6 = 0) || decide (rF M r 6 = 1))))) n (Ms h0 m (M))) := by
  refine lift_s x fun M9 y sc => lift_r (cn_X11_takesPart y hr) ?_ ?_
  · have e1 : gbrd M9 = gbrd M := sc.b
    have e2 : gsol M9 = gsol M := sc.a 10 rfl
    have e3 : gcrd M9 = gcrd M := sc.c
    have e4 : gthr M9 = gthr M := sc.f 7 rfl
    first | (simp only [dF, rF, sF, e1, e2, e3, e4]; done) | (simp only [dF, rF, sF, e1, e2, e3, e4]; rfl)
  · exact sc
theorem cs_solo {K : KX} {n : Nat} {h h0 : MH} {m : Nat} {M : MS} (x : Ms h0 m M h) {r d : Nat} (hr : r < 20) (hd : d < 8) : Con K mX11_solo [.ref m, .int (nI r), .int (nI d)] 0 0 n h (RetP (some (.int (gsol M (8 * r + d)))) n (Ms h0 m (M))) := by
  refine lift_s x fun M9 y sc => lift_r (cn_X11_solo y hr hd) ?_ ?_
  · have e1 : gbrd M9 = gbrd M := sc.b
    have e2 : gsol M9 = gsol M := sc.a 10 rfl
    have e3 : gcrd M9 = gcrd M := sc.c
    have e4 : gthr M9 = gthr M := sc.f 7 rfl
    first | (simp only [dF, rF, sF, e1, e2, e3, e4]; done) | (simp only [dF, rF, sF, e1, e2, e3, e4]; rfl)
  · exact sc
theorem cs_doFit {K : KX} {n : Nat} {h h0 : MH} {m : Nat} {M : MS} (x : Ms h0 m M h) {r d : Nat} (hr : r < 20) (hd : d < 8) : Con K mX11_doFit [.ref m, .int (nI r), .int (nI d)] 0 0 n h (RetP (some (.int (bI (decide (gsol M (8 * r + d) < 1000000000))))) n (Ms h0 m (M))) := by
  refine lift_s x fun M9 y sc => lift_r (cn_X11_doFit y hr hd) ?_ ?_
  · have e1 : gbrd M9 = gbrd M := sc.b
    have e2 : gsol M9 = gsol M := sc.a 10 rfl
    have e3 : gcrd M9 = gcrd M := sc.c
    have e4 : gthr M9 = gthr M := sc.f 7 rfl
    first | (simp only [dF, rF, sF, e1, e2, e3, e4]; done) | (simp only [dF, rF, sF, e1, e2, e3, e4]; rfl)
  · exact sc
theorem cs_hasMore {K : KX} {n : Nat} {h h0 : MH} {m : Nat} {M : MS} (x : Ms h0 m M h) {r q : Nat} (hr : r < 20) (hq : q < 20) : Con K mX11_hasMore [.ref m, .int (nI r), .int (nI q)] 0 0 n h (RetP (some (.int (bI (q_more M r q)))) n (Ms h0 m (M))) := by
  refine lift_s x fun M9 y sc => lift_r (cn_X11_hasMore y hr hq) ?_ ?_
  · have e1 : gbrd M9 = gbrd M := sc.b
    have e2 : gsol M9 = gsol M := sc.a 10 rfl
    have e3 : gcrd M9 = gcrd M := sc.c
    have e4 : gthr M9 = gthr M := sc.f 7 rfl
    first | (simp only [dF, rF, sF, e1, e2, e3, e4, q_more]; done) | (simp only [dF, rF, sF, e1, e2, e3, e4, q_more]; rfl)
  · exact sc
theorem cs_likesRider {K : KX} {n : Nat} {h h0 : MH} {m : Nat} {M : MS} (x : Ms h0 m M h) {d r q : Nat} (hd : d < 8) (hr : r < 20) (hq : q < 20) : Con K mX11_likesRider [.ref m, .int (nI d), .int (nI r), .int (nI q)] 0 0 n h (RetP (some (.int (bI (q_lr M d r q)))) n (Ms h0 m (M))) := by
  refine lift_s x fun M9 y sc => lift_r (cn_X11_likesRider y hd hr hq) ?_ ?_
  · have e1 : gbrd M9 = gbrd M := sc.b
    have e2 : gsol M9 = gsol M := sc.a 10 rfl
    have e3 : gcrd M9 = gcrd M := sc.c
    have e4 : gthr M9 = gthr M := sc.f 7 rfl
    first | (simp only [dF, rF, sF, e1, e2, e3, e4, q_lr, q_more]; done) | (simp only [dF, rF, sF, e1, e2, e3, e4, q_lr, q_more]; rfl)
  · exact sc
theorem cs_likesDriver {K : KX} {n : Nat} {h h0 : MH} {m : Nat} {M : MS} (x : Ms h0 m M h) {r d e : Nat} (hr : r < 20) (hd : d < 8) (he : e < 8) : Con K mX11_likesDriver [.ref m, .int (nI r), .int (nI d), .int (nI e)] 0 0 n h (RetP (some (.int (bI (q_ld M r d e)))) n (Ms h0 m (M))) := by
  refine lift_s x fun M9 y sc => lift_r (cn_X11_likesDriver y hr hd he) ?_ ?_
  · have e1 : gbrd M9 = gbrd M := sc.b
    have e2 : gsol M9 = gsol M := sc.a 10 rfl
    have e3 : gcrd M9 = gcrd M := sc.c
    have e4 : gthr M9 = gthr M := sc.f 7 rfl
    first | (simp only [dF, rF, sF, e1, e2, e3, e4, q_ld, q_price]; done) | (simp only [dF, rF, sF, e1, e2, e3, e4, q_ld, q_price]; rfl)
  · exact sc
theorem cs_isChoice {K : KX} {n : Nat} {h h0 : MH} {m : Nat} {M : MS} (x : Ms h0 m M h) {d r : Nat} (hd : d < 8) (hr : r < 20) : Con K mX11_isChoice [.ref m, .int (nI d), .int (nI r)] 0 0 n h (RetP (some (.int (bI (q_ch M d r)))) n (Ms h0 m (M))) := by
  refine lift_s x fun M9 y sc => lift_r (cn_X11_isChoice y hd hr) ?_ ?_
  · have e1 : gbrd M9 = gbrd M := sc.b
    have e2 : gsol M9 = gsol M := sc.a 10 rfl
    have e3 : gcrd M9 = gcrd M := sc.c
    have e4 : gthr M9 = gthr M := sc.f 7 rfl
    first | (simp only [dF, rF, sF, e1, e2, e3, e4, q_ch]; done) | (simp only [dF, rF, sF, e1, e2, e3, e4, q_ch]; rfl)
  · exact sc
