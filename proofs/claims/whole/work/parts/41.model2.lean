section MM
variable {Γ : GX} {k sl pc n : Nat} {ls : List (Nat × Value)} {st : List Value} {h h0 : MH} {m : Nat} {M : MS}
theorem mM_pthr {i : Nat} {v : Int32} (hd : decode (mcode Γ.2.1) pc = .ok (.putfield i, 3)) (hf : FG (my Γ.2.1).cls i 11 7) (x : Md h0 m M h) (g : ∀ h', Md h0 m (sthr M v) h' → GG Γ k sl (pc + 3) ls st n h') : GG Γ k sl pc ls (.int v :: .ref m :: st) n h :=
  mj_putf hd hf x.ko rfl rfl rfl (Nat.le_of_ble_eq_true rfl) rfl (g _ (x.pthr v))
theorem mM_prcnt {i : Nat} {v : Int32} (hd : decode (mcode Γ.2.1) pc = .ok (.putfield i, 3)) (hf : FG (my Γ.2.1).cls i 11 9) (x : Md h0 m M h) (g : ∀ h', Md h0 m (srcnt M v) h' → GG Γ k sl (pc + 3) ls st n h') : GG Γ k sl pc ls (.int v :: .ref m :: st) n h :=
  mj_putf hd hf x.ko rfl rfl rfl (Nat.le_of_ble_eq_true rfl) rfl (g _ (x.prcnt v))
theorem mM_prlen {i : Nat} {v : Int32} (hd : decode (mcode Γ.2.1) pc = .ok (.putfield i, 3)) (hf : FG (my Γ.2.1).cls i 11 10) (x : Md h0 m M h) (g : ∀ h', Md h0 m (srlen M v) h' → GG Γ k sl (pc + 3) ls st n h') : GG Γ k sl pc ls (.int v :: .ref m :: st) n h :=
  mj_putf hd hf x.ko rfl rfl rfl (Nat.le_of_ble_eq_true rfl) rfl (g _ (x.prlen v))
theorem mM_prval {i : Nat} {v : Int32} (hd : decode (mcode Γ.2.1) pc = .ok (.putfield i, 3)) (hf : FG (my Γ.2.1).cls i 11 11) (x : Md h0 m M h) (hv : v = 0 ∨ v = 1) (g : ∀ h', Md h0 m (srval M v) h' → GG Γ k sl (pc + 3) ls st n h') : GG Γ k sl pc ls (.int v :: .ref m :: st) n h :=
  mj_putf (fs' := _) hd hf x.ko rfl (by rcases hv with rfl | rfl <;> rfl) (by rcases hv with rfl | rfl <;> rfl) (Nat.le_of_ble_eq_true rfl) rfl (g _ (x.prval v))
theorem mM_pbl {i : Nat} {v : Int32} (hd : decode (mcode Γ.2.1) pc = .ok (.putfield i, 3)) (hf : FG (my Γ.2.1).cls i 11 13) (x : Md h0 m M h) (g : ∀ h', Md h0 m (sbl M v) h' → GG Γ k sl (pc + 3) ls st n h') : GG Γ k sl pc ls (.int v :: .ref m :: st) n h :=
  mj_putf hd hf x.ko rfl rfl rfl (Nat.le_of_ble_eq_true rfl) rfl (g _ (x.pbl v))
theorem mM_pbp {i : Nat} {v : Int32} (hd : decode (mcode Γ.2.1) pc = .ok (.putfield i, 3)) (hf : FG (my Γ.2.1).cls i 11 14) (x : Md h0 m M h) (g : ∀ h', Md h0 m (sbp M v) h' → GG Γ k sl (pc + 3) ls st n h') : GG Γ k sl pc ls (.int v :: .ref m :: st) n h :=
  mj_putf hd hf x.ko rfl rfl rfl (Nat.le_of_ble_eq_true rfl) rfl (g _ (x.pbp v))
theorem mM_pbdr {i : Nat} {v : Int32} (hd : decode (mcode Γ.2.1) pc = .ok (.putfield i, 3)) (hf : FG (my Γ.2.1).cls i 11 15) (x : Md h0 m M h) (g : ∀ h', Md h0 m (sbdr M v) h' → GG Γ k sl (pc + 3) ls st n h') : GG Γ k sl pc ls (.int v :: .ref m :: st) n h :=
  mj_putf hd hf x.ko rfl rfl rfl (Nat.le_of_ble_eq_true rfl) rfl (g _ (x.pbdr v))
theorem mM_pws {i : Nat} {v : Int32} (hd : decode (mcode Γ.2.1) pc = .ok (.putfield i, 3)) (hf : FG (my Γ.2.1).cls i 11 20) (x : Md h0 m M h) (g : ∀ h', Md h0 m (sws M v) h' → GG Γ k sl (pc + 3) ls st n h') : GG Γ k sl pc ls (.int v :: .ref m :: st) n h :=
  mj_putf hd hf x.ko rfl rfl rfl (Nat.le_of_ble_eq_true rfl) rfl (g _ (x.pws v))
theorem mM_ptl {i : Nat} {v : Int32} (hd : decode (mcode Γ.2.1) pc = .ok (.putfield i, 3)) (hf : FG (my Γ.2.1).cls i 11 22) (x : Md h0 m M h) (g : ∀ h', Md h0 m (stl M v) h' → GG Γ k sl (pc + 3) ls st n h') : GG Γ k sl pc ls (.int v :: .ref m :: st) n h :=
  mj_putf hd hf x.ko rfl rfl rfl (Nat.le_of_ble_eq_true rfl) rfl (g _ (x.ptl v))
theorem mM_ppos {i : Nat} {v : Int32} (hd : decode (mcode Γ.2.1) pc = .ok (.putfield i, 3)) (hf : FG (my Γ.2.1).cls i 11 23) (x : Md h0 m M h) (g : ∀ h', Md h0 m (spos M v) h' → GG Γ k sl (pc + 3) ls st n h') : GG Γ k sl pc ls (.int v :: .ref m :: st) n h :=
  mj_putf hd hf x.ko rfl rfl rfl (Nat.le_of_ble_eq_true rfl) rfl (g _ (x.ppos v))
theorem mM_ptst {i : Nat} {v : Int32} (hd : decode (mcode Γ.2.1) pc = .ok (.putfield i, 3)) (hf : FG (my Γ.2.1).cls i 11 24) (x : Md h0 m M h) (g : ∀ h', Md h0 m (stst M v) h' → GG Γ k sl (pc + 3) ls st n h') : GG Γ k sl pc ls (.int v :: .ref m :: st) n h :=
  mj_putf hd hf x.ko rfl rfl rfl (Nat.le_of_ble_eq_true rfl) rfl (g _ (x.ptst v))
theorem mM_ptok {i : Nat} {v : Int32} (hd : decode (mcode Γ.2.1) pc = .ok (.putfield i, 3)) (hf : FG (my Γ.2.1).cls i 11 25) (x : Md h0 m M h) (g : ∀ h', Md h0 m (stok M v) h' → GG Γ k sl (pc + 3) ls st n h') : GG Γ k sl pc ls (.int v :: .ref m :: st) n h :=
  mj_putf hd hf x.ko rfl rfl rfl (Nat.le_of_ble_eq_true rfl) rfl (g _ (x.ptok v))
theorem mM_plet {i : Nat} {v : Int32} (hd : decode (mcode Γ.2.1) pc = .ok (.putfield i, 3)) (hf : FG (my Γ.2.1).cls i 11 26) (x : Md h0 m M h) (g : ∀ h', Md h0 m (slet M v) h' → GG Γ k sl (pc + 3) ls st n h') : GG Γ k sl pc ls (.int v :: .ref m :: st) n h :=
  mj_putf hd hf x.ko rfl rfl rfl (Nat.le_of_ble_eq_true rfl) rfl (g _ (x.plet v))
theorem mM_pnum {i : Nat} {v : Int32} (hd : decode (mcode Γ.2.1) pc = .ok (.putfield i, 3)) (hf : FG (my Γ.2.1).cls i 11 27) (x : Md h0 m M h) (g : ∀ h', Md h0 m (snum M v) h' → GG Γ k sl (pc + 3) ls st n h') : GG Γ k sl pc ls (.int v :: .ref m :: st) n h :=
  mj_putf hd hf x.ko rfl rfl rfl (Nat.le_of_ble_eq_true rfl) rfl (g _ (x.pnum v))
theorem mM_pec {i : Nat} {v : Int32} (hd : decode (mcode Γ.2.1) pc = .ok (.putfield i, 3)) (hf : FG (my Γ.2.1).cls i 11 28) (x : Md h0 m M h) (g : ∀ h', Md h0 m (sec M v) h' → GG Γ k sl (pc + 3) ls st n h') : GG Γ k sl pc ls (.int v :: .ref m :: st) n h :=
  mj_putf hd hf x.ko rfl rfl rfl (Nat.le_of_ble_eq_true rfl) rfl (g _ (x.pec v))
theorem mM_pep {i : Nat} {v : Int32} (hd : decode (mcode Γ.2.1) pc = .ok (.putfield i, 3)) (hf : FG (my Γ.2.1).cls i 11 29) (x : Md h0 m M h) (g : ∀ h', Md h0 m (sep M v) h' → GG Γ k sl (pc + 3) ls st n h') : GG Γ k sl pc ls (.int v :: .ref m :: st) n h :=
  mj_putf hd hf x.ko rfl rfl rfl (Nat.le_of_ble_eq_true rfl) rfl (g _ (x.pep v))
theorem mM_pwrd {i : Nat} {v : Int64} (hd : decode (mcode Γ.2.1) pc = .ok (.putfield i, 3)) (hf : FG (my Γ.2.1).cls i 11 30) (x : Md h0 m M h) (g : ∀ h', Md h0 m (swrd M v) h' → GG Γ k sl (pc + 3) ls st n h') : GG Γ k sl pc ls (.long v :: .ref m :: st) n h :=
  mj_putf hd hf x.ko rfl rfl rfl (Nat.le_of_ble_eq_true rfl) rfl (g _ (x.pwrd v))
theorem mM_abrd {i v : Int32} {j : Nat} (x : Md h0 m M h) (hi : i.toInt = (j : Int)) (hj : j < 568) (hd : decode (mcode Γ.2.1) pc = .ok (.iastore, 1)) (g : ∀ h', Md h0 m (sbrd M (upd (gbrd M) j v)) h' → GG Γ k sl (pc + 1) ls st n h') : GG Γ k sl pc ls (.int v :: .int i :: .ref (m + 1) :: st) n h := mj_iast x.kbrd hi hj hd (g _ (x.pbrd _))
theorem mM_abak {i v : Int32} {j : Nat} (x : Md h0 m M h) (hi : i.toInt = (j : Int)) (hj : j < 568) (hd : decode (mcode Γ.2.1) pc = .ok (.iastore, 1)) (g : ∀ h', Md h0 m (sbak M (upd (gbak M) j v)) h' → GG Γ k sl (pc + 1) ls st n h') : GG Γ k sl pc ls (.int v :: .int i :: .ref (m + 2) :: st) n h := mj_iast x.kbak hi hj hd (g _ (x.pbak _))
theorem mM_asav {i v : Int32} {j : Nat} (x : Md h0 m M h) (hi : i.toInt = (j : Int)) (hj : j < 1136) (hd : decode (mcode Γ.2.1) pc = .ok (.iastore, 1)) (g : ∀ h', Md h0 m (ssav M (upd (gsav M) j v)) h' → GG Γ k sl (pc + 1) ls st n h') : GG Γ k sl pc ls (.int v :: .int i :: .ref (m + 3) :: st) n h := mj_iast x.ksav hi hj hd (g _ (x.psav _))
theorem mM_arow {i v : Int32} {j : Nat} (x : Md h0 m M h) (hi : i.toInt = (j : Int)) (hj : j < 44) (hd : decode (mcode Γ.2.1) pc = .ok (.iastore, 1)) (g : ∀ h', Md h0 m (srow M (upd (grow M) j v)) h' → GG Γ k sl (pc + 1) ls st n h') : GG Γ k sl pc ls (.int v :: .int i :: .ref (m + 8) :: st) n h := mj_iast x.krow hi hj hd (g _ (x.prow _))
theorem mM_aarr {i v : Int32} {j : Nat} (x : Md h0 m M h) (hi : i.toInt = (j : Int)) (hj : j < 46) (hd : decode (mcode Γ.2.1) pc = .ok (.iastore, 1)) (g : ∀ h', Md h0 m (sarr M (upd (garr M) j v)) h' → GG Γ k sl (pc + 1) ls st n h') : GG Γ k sl pc ls (.int v :: .int i :: .ref (m + 9) :: st) n h := mj_iast x.karr hi hj hd (g _ (x.parr _))
theorem mM_asol {i v : Int32} {j : Nat} (x : Md h0 m M h) (hi : i.toInt = (j : Int)) (hj : j < 160) (hd : decode (mcode Γ.2.1) pc = .ok (.iastore, 1)) (g : ∀ h', Md h0 m (ssol M (upd (gsol M) j v)) h' → GG Γ k sl (pc + 1) ls st n h') : GG Γ k sl pc ls (.int v :: .int i :: .ref (m + 10) :: st) n h := mj_iast x.ksol hi hj hd (g _ (x.psol _))
theorem mM_ahol {i v : Int32} {j : Nat} (x : Md h0 m M h) (hi : i.toInt = (j : Int)) (hj : j < 20) (hd : decode (mcode Γ.2.1) pc = .ok (.iastore, 1)) (g : ∀ h', Md h0 m (shol M (upd (ghol M) j v)) h' → GG Γ k sl (pc + 1) ls st n h') : GG Γ k sl pc ls (.int v :: .int i :: .ref (m + 11) :: st) n h := mj_iast x.khol hi hj hd (g _ (x.phol _))
theorem mM_aask {i v : Int32} {j : Nat} (x : Md h0 m M h) (hi : i.toInt = (j : Int)) (hj : j < 20) (hd : decode (mcode Γ.2.1) pc = .ok (.iastore, 1)) (g : ∀ h', Md h0 m (sask M (upd (gask M) j v)) h' → GG Γ k sl (pc + 1) ls st n h') : GG Γ k sl pc ls (.int v :: .int i :: .ref (m + 12) :: st) n h := mj_iast x.kask hi hj hd (g _ (x.pask _))
theorem mM_awei {i v : Int32} {j : Nat} (x : Md h0 m M h) (hi : i.toInt = (j : Int)) (hj : j < 20) (hd : decode (mcode Γ.2.1) pc = .ok (.iastore, 1)) (g : ∀ h', Md h0 m (swei M (upd (gwei M) j v)) h' → GG Γ k sl (pc + 1) ls st n h') : GG Γ k sl pc ls (.int v :: .int i :: .ref (m + 13) :: st) n h := mj_iast x.kwei hi hj hd (g _ (x.pwei _))
theorem mM_atxt {i v : Int32} {j : Nat} (x : Md h0 m M h) (hi : i.toInt = (j : Int)) (hj : j < 600) (hd : decode (mcode Γ.2.1) pc = .ok (.iastore, 1)) (g : ∀ h', Md h0 m (stxt M (upd (gtxt M) j v)) h' → GG Γ k sl (pc + 1) ls st n h') : GG Γ k sl pc ls (.int v :: .int i :: .ref (m + 14) :: st) n h := mj_iast x.ktxt hi hj hd (g _ (x.ptxt _))
theorem mM_aplc {i v : Int32} {j : Nat} (x : Md h0 m M h) (hi : i.toInt = (j : Int)) (hj : j < 4) (hd : decode (mcode Γ.2.1) pc = .ok (.iastore, 1)) (g : ∀ h', Md h0 m (splc M (upd (gplc M) j v)) h' → GG Γ k sl (pc + 1) ls st n h') : GG Γ k sl pc ls (.int v :: .int i :: .ref (m + 15) :: st) n h := mj_iast x.kplc hi hj hd (g _ (x.pplc _))
theorem mM_acrd {i : Int32} {v : Int64} {j : Nat} (x : Md h0 m M h) (hi : i.toInt = (j : Int)) (hj : j < 28) (hd : decode (mcode Γ.2.1) pc = .ok (.lastore, 1)) (g : ∀ h', Md h0 m (scrd M (vp_updL (gcrd M) j v)) h' → GG Γ k sl (pc + 1) ls st n h') : GG Γ k sl pc ls (.long v :: .int i :: .ref (m + 4) :: st) n h := mj_last x.kcrd hi hj hd (g _ (x.pcrd _))
theorem mM_acbk {i : Int32} {v : Int64} {j : Nat} (x : Md h0 m M h) (hi : i.toInt = (j : Int)) (hj : j < 28) (hd : decode (mcode Γ.2.1) pc = .ok (.lastore, 1)) (g : ∀ h', Md h0 m (scbk M (vp_updL (gcbk M) j v)) h' → GG Γ k sl (pc + 1) ls st n h') : GG Γ k sl pc ls (.long v :: .int i :: .ref (m + 5) :: st) n h := mj_last x.kcbk hi hj hd (g _ (x.pcbk _))
theorem mM_acsv {i : Int32} {v : Int64} {j : Nat} (x : Md h0 m M h) (hi : i.toInt = (j : Int)) (hj : j < 56) (hd : decode (mcode Γ.2.1) pc = .ok (.lastore, 1)) (g : ∀ h', Md h0 m (scsv M (vp_updL (gcsv M) j v)) h' → GG Γ k sl (pc + 1) ls st n h') : GG Γ k sl pc ls (.long v :: .int i :: .ref (m + 6) :: st) n h := mj_last x.kcsv hi hj hd (g _ (x.pcsv _))
theorem mM_aiss {i v : Int32} {j : Nat} (x : Md h0 m M h) (hi : i.toInt = (j : Int)) (hj : j < 2) (hd : decode (mcode Γ.2.1) pc = .ok (.bastore, 1)) (hx : narrow .boolean (.int v) = .int v) (g : ∀ h', Md h0 m (siss M (upd (giss M) j v)) h' → GG Γ k sl (pc + 1) ls st n h') : GG Γ k sl pc ls (.int v :: .int i :: .ref (m + 7) :: st) n h := mj_zast x.kiss hi hj hx hd (g _ (x.piss _))
end MM
theorem nI_mul (a b : Nat) : nI a * nI b = nI (a * b) := pk_mul a b
theorem ix_drv {d f : Nat} (hd : d < 8) (hf : f < 10) : ((8 : Int32) + 10 * nI d + nI f).toInt = ((8 + 10 * d + f : Nat) : Int) := by
  rw [show (8 : Int32) = nI 8 from rfl, show (10 : Int32) = nI 10 from rfl, nI_mul, nI_add, nI_add]
  exact ixn (by omega)
theorem ix_rdr {r f : Nat} (hr : r < 20) (hf : f < 8) : ((408 : Int32) + 8 * nI r + nI f).toInt = ((408 + 8 * r + f : Nat) : Int) := by
  rw [show (408 : Int32) = nI 408 from rfl, show (8 : Int32) = nI 8 from rfl, nI_mul, nI_add, nI_add]
  exact ixn (by omega)
theorem ix_stp {d i : Nat} (hd : d < 8) (hi : i < 40) : ((88 : Int32) + 40 * nI d + nI i).toInt = ((88 + 40 * d + i : Nat) : Int) := by
  rw [show (88 : Int32) = nI 88 from rfl, show (40 : Int32) = nI 40 from rfl, nI_mul, nI_add, nI_add]
  exact ixn (by omega)
theorem ix_crd {r : Nat} (hr : r < 20) : ((8 : Int32) + nI r).toInt = ((8 + r : Nat) : Int) := by
  rw [show (8 : Int32) = nI 8 from rfl, nI_add]
  exact ixn (by omega)
theorem ix_sol {r d : Nat} (hr : r < 20) (hd : d < 8) : ((8 : Int32) * nI r + nI d).toInt = ((8 * r + d : Nat) : Int) := by
  rw [show (8 : Int32) = nI 8 from rfl, nI_mul, nI_add]
  exact ixn (by omega)
abbrev dF (M : MS) (d f : Nat) : Int32 := gbrd M (8 + 10 * d + f)
abbrev rF (M : MS) (r f : Nat) : Int32 := gbrd M (408 + 8 * r + f)
abbrev sF (M : MS) (d i : Nat) : Int32 := gbrd M (88 + 40 * d + i)
def wD (M : MS) (d f : Nat) (v : Int32) : MS := sbrd M (upd (gbrd M) (8 + 10 * d + f) v)
def wR (M : MS) (r f : Nat) (v : Int32) : MS := sbrd M (upd (gbrd M) (408 + 8 * r + f) v)
set_option maxRecDepth 100000 in
set_option maxHeartbeats 4000000 in
theorem cn_X11_isBetween {K : KX} {n : Nat} {h : MH} (v l u : Int32) : Con K mX11_isBetween [.int v, .int l, .int u] 0 0 n h (Ret (some (.int (bI (b_in v l u)))) n h) := by
  refine Con.of (by decide +kernel) (Nat.le_of_ble_eq_true rfl) ?_
  refine mj_iload_n 0 dX11_isBetween_0 rfl ?_
  refine mj_iload_n 1 dX11_isBetween_1 rfl ?_
  refine mj_icmp_lt 14 dX11_isBetween_2 (by decide) (fun c_2 => ?_) (fun c_2 => ?_)
  · have z1 : ¬ l ≤ v := Int32.not_le.mpr c_2
    refine mj_iconst (v := 0) dX11_isBetween_14 rfl ?_
    exact mj_zret dX11_isBetween_15 rfl (by first | exact Or.inl rfl | exact Or.inr rfl) (Nat.le_of_ble_eq_true rfl) (Nat.le_of_ble_eq_true rfl) ⟨(by simp [bI, b_in, *]), rfl, rfl⟩
  · have z1 : l ≤ v := Int32.not_lt.mp c_2
    refine mj_iload_n 0 dX11_isBetween_5 rfl ?_
    refine mj_iload_n 2 dX11_isBetween_6 rfl ?_
    refine mj_icmp_gt 14 dX11_isBetween_7 (by decide) (fun c_7 => ?_) (fun c_7 => ?_)
    · have z2 : ¬ v ≤ u := Int32.not_le.mpr c_7
      refine mj_iconst (v := 0) dX11_isBetween_14 rfl ?_
      exact mj_zret dX11_isBetween_15 rfl (by first | exact Or.inl rfl | exact Or.inr rfl) (Nat.le_of_ble_eq_true rfl) (Nat.le_of_ble_eq_true rfl) ⟨(by simp [bI, b_in, *]), rfl, rfl⟩
    · have z2 : v ≤ u := Int32.not_lt.mp c_7
      refine mj_iconst (v := 1) dX11_isBetween_10 rfl ?_
      refine mj_goto 15 dX11_isBetween_11 (by decide) ?_
      exact mj_zret dX11_isBetween_15 rfl (by first | exact Or.inl rfl | exact Or.inr rfl) (Nat.le_of_ble_eq_true rfl) (Nat.le_of_ble_eq_true rfl) ⟨(by simp [bI, b_in, *]), rfl, rfl⟩
set_option maxRecDepth 100000 in
set_option maxHeartbeats 4000000 in
theorem cn_X11_distance {K : KX} {n : Nat} {h : MH} (u v w z : Int32) : Con K mX11_distance [.int u, .int v, .int w, .int z] 0 0 n h (Ret (some (.int (i_dist u v w z))) n h) := by
  refine Con.of (by decide +kernel) (Nat.le_of_ble_eq_true rfl) ?_
  refine mj_iload_n 0 dX11_distance_0 rfl ?_
  refine mj_iload_n 2 dX11_distance_1 rfl ?_
  refine mj_isub dX11_distance_2 ?_
  refine mj_abs dX11_distance_3 mlX11_122 st_abs in_Math cd_abs (Nat.le_of_ble_eq_true rfl) (Nat.le_of_ble_eq_true rfl) (Nat.le_of_ble_eq_true rfl) (Nat.le_of_ble_eq_true rfl) rfl ?_
  refine mj_iload_n 1 dX11_distance_6 rfl ?_
  refine mj_iload_n 3 dX11_distance_7 rfl ?_
  refine mj_isub dX11_distance_8 ?_
  refine mj_abs dX11_distance_9 mlX11_122 st_abs in_Math cd_abs (Nat.le_of_ble_eq_true rfl) (Nat.le_of_ble_eq_true rfl) (Nat.le_of_ble_eq_true rfl) (Nat.le_of_ble_eq_true rfl) rfl ?_
  refine mj_iadd dX11_distance_12 ?_
  exact mj_iret dX11_distance_13 rfl (Nat.le_of_ble_eq_true rfl) (Nat.le_of_ble_eq_true rfl) ⟨rfl, rfl, rfl⟩
set_option maxRecDepth 100000 in
set_option maxHeartbeats 4000000 in
theorem cn_X11_arePlaces {K : KX} {n : Nat} {h : MH} (u v w z : Int32) : Con K mX11_arePlaces [.int u, .int v, .int w, .int z] 0 0 n h (Ret (some (.int (bI (b_pl u v && b_pl w z)))) n h) := by
  refine Con.of (by decide +kernel) (Nat.le_of_ble_eq_true rfl) ?_
  refine mj_iload_n 0 dX11_arePlaces_0 rfl ?_
  refine mj_iconst (v := 0) dX11_arePlaces_1 rfl ?_
  refine mj_bipush (v := (99)) dX11_arePlaces_2 rfl ?_
  refine mj_cS1 [_, _, _] dX11_arePlaces_4 cwX11_isBetween lkX11_64 rfl (cn_X11_isBetween _ _ _) ⟨Nat.le_of_ble_eq_true rfl, Nat.le_of_ble_eq_true rfl, Nat.le_of_ble_eq_true rfl, Nat.le_of_ble_eq_true rfl, Nat.le_of_ble_eq_true rfl⟩ (fun h' e' => ?_)
  subst h'
  refine mj_if_eq 44 dX11_arePlaces_7 (by decide) (fun c_7 => ?_) (fun c_7 => ?_)
  · have z1 := bI_0.mp c_7
    refine mj_iconst (v := 0) dX11_arePlaces_44 rfl ?_
    exact mj_zret dX11_arePlaces_45 rfl (by first | exact Or.inl rfl | exact Or.inr rfl) (Nat.le_of_ble_eq_true rfl) (Nat.le_of_ble_eq_true rfl) ⟨(by unfold b_pl; simp [bI, *]), rfl, rfl⟩
  · have z1 := bI_n0.mp c_7
    refine mj_iload_n 1 dX11_arePlaces_10 rfl ?_
    refine mj_iconst (v := 0) dX11_arePlaces_11 rfl ?_
    refine mj_bipush (v := (99)) dX11_arePlaces_12 rfl ?_
    refine mj_cS1 [_, _, _] dX11_arePlaces_14 cwX11_isBetween lkX11_64 rfl (cn_X11_isBetween _ _ _) ⟨Nat.le_of_ble_eq_true rfl, Nat.le_of_ble_eq_true rfl, Nat.le_of_ble_eq_true rfl, Nat.le_of_ble_eq_true rfl, Nat.le_of_ble_eq_true rfl⟩ (fun h' e' => ?_)
    subst h'
    refine mj_if_eq 44 dX11_arePlaces_17 (by decide) (fun c_17 => ?_) (fun c_17 => ?_)
    · have z2 := bI_0.mp c_17
      refine mj_iconst (v := 0) dX11_arePlaces_44 rfl ?_
      exact mj_zret dX11_arePlaces_45 rfl (by first | exact Or.inl rfl | exact Or.inr rfl) (Nat.le_of_ble_eq_true rfl) (Nat.le_of_ble_eq_true rfl) ⟨(by unfold b_pl; simp [bI, *]), rfl, rfl⟩
    · have z2 := bI_n0.mp c_17
      refine mj_iload_n 2 dX11_arePlaces_20 rfl ?_
      refine mj_iconst (v := 0) dX11_arePlaces_21 rfl ?_
      refine mj_bipush (v := (99)) dX11_arePlaces_22 rfl ?_
      refine mj_cS1 [_, _, _] dX11_arePlaces_24 cwX11_isBetween lkX11_64 rfl (cn_X11_isBetween _ _ _) ⟨Nat.le_of_ble_eq_true rfl, Nat.le_of_ble_eq_true rfl, Nat.le_of_ble_eq_true rfl, Nat.le_of_ble_eq_true rfl, Nat.le_of_ble_eq_true rfl⟩ (fun h' e' => ?_)
      subst h'
      refine mj_if_eq 44 dX11_arePlaces_27 (by decide) (fun c_27 => ?_) (fun c_27 => ?_)
      · have z3 := bI_0.mp c_27
        refine mj_iconst (v := 0) dX11_arePlaces_44 rfl ?_
        exact mj_zret dX11_arePlaces_45 rfl (by first | exact Or.inl rfl | exact Or.inr rfl) (Nat.le_of_ble_eq_true rfl) (Nat.le_of_ble_eq_true rfl) ⟨(by unfold b_pl; simp [bI, *]), rfl, rfl⟩
      · have z3 := bI_n0.mp c_27
        refine mj_iload_n 3 dX11_arePlaces_30 rfl ?_
        refine mj_iconst (v := 0) dX11_arePlaces_31 rfl ?_
        refine mj_bipush (v := (99)) dX11_arePlaces_32 rfl ?_
        refine mj_cS1 [_, _, _] dX11_arePlaces_34 cwX11_isBetween lkX11_64 rfl (cn_X11_isBetween _ _ _) ⟨Nat.le_of_ble_eq_true rfl, Nat.le_of_ble_eq_true rfl, Nat.le_of_ble_eq_true rfl, Nat.le_of_ble_eq_true rfl, Nat.le_of_ble_eq_true rfl⟩ (fun h' e' => ?_)
        subst h'
        refine mj_if_eq 44 dX11_arePlaces_37 (by decide) (fun c_37 => ?_) (fun c_37 => ?_)
        · have z4 := bI_0.mp c_37
          refine mj_iconst (v := 0) dX11_arePlaces_44 rfl ?_
          exact mj_zret dX11_arePlaces_45 rfl (by first | exact Or.inl rfl | exact Or.inr rfl) (Nat.le_of_ble_eq_true rfl) (Nat.le_of_ble_eq_true rfl) ⟨(by unfold b_pl; simp [bI, *]), rfl, rfl⟩
        · have z4 := bI_n0.mp c_37
          refine mj_iconst (v := 1) dX11_arePlaces_40 rfl ?_
          refine mj_goto 45 dX11_arePlaces_41 (by decide) ?_
          exact mj_zret dX11_arePlaces_45 rfl (by first | exact Or.inl rfl | exact Or.inr rfl) (Nat.le_of_ble_eq_true rfl) (Nat.le_of_ble_eq_true rfl) ⟨(by unfold b_pl; simp [bI, *]), rfl, rfl⟩
set_option maxRecDepth 100000 in
set_option maxHeartbeats 4000000 in
theorem cn_X11_isLetter {K : KX} {n : Nat} {h : MH} {c : Int32} : Con K mX11_isLetter [.int c] 0 0 n h (Ret (some (.int (bI (k_let c)))) n h) := by
  refine Con.of (by decide +kernel) (Nat.le_of_ble_eq_true rfl) ?_
  refine mj_iload_n 0 dX11_isLetter_0 rfl ?_
  refine mj_bipush (v := (97)) dX11_isLetter_1 rfl ?_
  refine mj_bipush (v := (122)) dX11_isLetter_3 rfl ?_
  refine mj_cS1 [_, _, _] dX11_isLetter_5 cwX11_isBetween lkX11_64 rfl (cn_X11_isBetween _ _ _) ⟨Nat.le_of_ble_eq_true rfl, Nat.le_of_ble_eq_true rfl, Nat.le_of_ble_eq_true rfl, Nat.le_of_ble_eq_true rfl, Nat.le_of_ble_eq_true rfl⟩ (fun h' e' => ?_)
  subst h'
  exact mj_zret dX11_isLetter_8 rfl (by first | (cases b_in c 97 122; exact Or.inl rfl; exact Or.inr rfl) | (cases b_in c 48 57; exact Or.inl rfl; exact Or.inr rfl)) (Nat.le_of_ble_eq_true rfl) (Nat.le_of_ble_eq_true rfl) ⟨rfl, rfl, rfl⟩
set_option maxRecDepth 100000 in
set_option maxHeartbeats 4000000 in
theorem cn_X11_isDigit {K : KX} {n : Nat} {h : MH} {c : Int32} : Con K mX11_isDigit [.int c] 0 0 n h (Ret (some (.int (bI (k_dig c)))) n h) := by
  refine Con.of (by decide +kernel) (Nat.le_of_ble_eq_true rfl) ?_
  refine mj_iload_n 0 dX11_isDigit_0 rfl ?_
  refine mj_bipush (v := (48)) dX11_isDigit_1 rfl ?_
  refine mj_bipush (v := (57)) dX11_isDigit_3 rfl ?_
  refine mj_cS1 [_, _, _] dX11_isDigit_5 cwX11_isBetween lkX11_64 rfl (cn_X11_isBetween _ _ _) ⟨Nat.le_of_ble_eq_true rfl, Nat.le_of_ble_eq_true rfl, Nat.le_of_ble_eq_true rfl, Nat.le_of_ble_eq_true rfl, Nat.le_of_ble_eq_true rfl⟩ (fun h' e' => ?_)
  subst h'
  exact mj_zret dX11_isDigit_8 rfl (by first | (cases b_in c 97 122; exact Or.inl rfl; exact Or.inr rfl) | (cases b_in c 48 57; exact Or.inl rfl; exact Or.inr rfl)) (Nat.le_of_ble_eq_true rfl) (Nat.le_of_ble_eq_true rfl) ⟨rfl, rfl, rfl⟩
def o_none (v : Int32) : Int32 := if v = 1000000000 then -1 else v
set_option maxRecDepth 100000 in
set_option maxHeartbeats 4000000 in
theorem cn_X11_orNone {K : KX} {n : Nat} {h : MH} {v : Int32} : Con K mX11_orNone [.int v] 0 0 n h (Ret (some (.int (o_none v))) n h) := by
  refine Con.of (by decide +kernel) (Nat.le_of_ble_eq_true rfl) ?_
  refine mj_iload_n 0 dX11_orNone_0 rfl ?_
  refine mj_ldc dX11_orNone_1 ctX11_166 ?_
  refine mj_icmp_ne 10 dX11_orNone_3 (by decide) (fun c_3 => ?_) (fun c_3 => ?_)
  · refine mj_iload_n 0 dX11_orNone_10 rfl ?_
    exact mj_iret dX11_orNone_11 rfl (Nat.le_of_ble_eq_true rfl) (Nat.le_of_ble_eq_true rfl) ⟨(by unfold o_none; first | rw [if_pos (by assumption)] | rw [if_neg (by assumption)]), rfl, rfl⟩
  · refine mj_iconst (v := (-1)) dX11_orNone_6 rfl ?_
    refine mj_goto 11 dX11_orNone_7 (by decide) ?_
    exact mj_iret dX11_orNone_11 rfl (Nat.le_of_ble_eq_true rfl) (Nat.le_of_ble_eq_true rfl) ⟨(by unfold o_none; first | rw [if_pos (by assumption)] | rw [if_neg (by assumption)]), rfl, rfl⟩
set_option maxRecDepth 100000 in
set_option maxHeartbeats 4000000 in
theorem cn_X11_thrown {K : KX} {n : Nat} {h : MH} {h0 : MH} {m : Nat} {M : MS} (x : Md h0 m M h)  : Con K mX11_thrown [.ref m] 0 0 n h (RetP (some (.int (gthr M))) n (Md h0 m (M))) := by
  refine Con.of (by decide +kernel) (Nat.le_of_ble_eq_true rfl) ?_
  refine mj_aload_n 0 dX11_thrown_0 rfl ?_
  refine mj_getf dX11_thrown_1 fgX11_61 x.ko rfl ?_
  exact mj_iret dX11_thrown_4 rfl (Nat.le_of_ble_eq_true rfl) (Nat.le_of_ble_eq_true rfl) ⟨rfl, rfl, x⟩
set_option maxRecDepth 100000 in
set_option maxHeartbeats 4000000 in
theorem cn_X11_fail {K : KX} {n : Nat} {h : MH} {h0 : MH} {m : Nat} {M : MS} (x : Md h0 m M h) {v : Int32} : Con K mX11_fail [.ref m, .int v] 0 0 n h (RetP (some (.int 0)) n (Md h0 m (sthr M v))) := by
  refine Con.of (by decide +kernel) (Nat.le_of_ble_eq_true rfl) ?_
  refine mj_aload_n 0 dX11_fail_0 rfl ?_
  refine mj_iload_n 1 dX11_fail_1 rfl ?_
  refine mM_pthr dX11_fail_2 fgX11_61 x (fun h x => ?_)
  refine mj_iconst (v := 0) dX11_fail_5 rfl ?_
  exact mj_iret dX11_fail_6 rfl (Nat.le_of_ble_eq_true rfl) (Nat.le_of_ble_eq_true rfl) ⟨rfl, rfl, x⟩
set_option maxRecDepth 100000 in
set_option maxHeartbeats 4000000 in
theorem cn_X11_driver {K : KX} {n : Nat} {h : MH} {h0 : MH} {m : Nat} {M : MS} (x : Md h0 m M h) {d f : Nat} (hd : d < 8) (hf : f < 10) : Con K mX11_driver [.ref m, .int (nI d), .int (nI f)] 0 0 n h (RetP (some (.int (dF M d f))) n (Md h0 m (M))) := by
  refine Con.of (by decide +kernel) (Nat.le_of_ble_eq_true rfl) ?_
  refine mj_aload_n 0 dX11_driver_0 rfl ?_
  refine mj_getf dX11_driver_1 fgX11_7 x.ko rfl ?_
  refine mj_bipush (v := (8)) dX11_driver_4 rfl ?_
  refine mj_bipush (v := (10)) dX11_driver_6 rfl ?_
  refine mj_iload_n 1 dX11_driver_8 rfl ?_
  refine mj_imul dX11_driver_9 ?_
  refine mj_iadd dX11_driver_10 ?_
  refine mj_iload_n 2 dX11_driver_11 rfl ?_
  refine mj_iadd dX11_driver_12 ?_
  refine mj_iald x.kbrd (ix_drv (by omega) (by omega)) (by first | assumption | omega | decide) dX11_driver_13 ?_
  exact mj_iret dX11_driver_14 rfl (Nat.le_of_ble_eq_true rfl) (Nat.le_of_ble_eq_true rfl) ⟨rfl, rfl, x⟩
set_option maxRecDepth 100000 in
set_option maxHeartbeats 4000000 in
theorem cn_X11_rider {K : KX} {n : Nat} {h : MH} {h0 : MH} {m : Nat} {M : MS} (x : Md h0 m M h) {r f : Nat} (hr : r < 20) (hf : f < 8) : Con K mX11_rider [.ref m, .int (nI r), .int (nI f)] 0 0 n h (RetP (some (.int (rF M r f))) n (Md h0 m (M))) := by
  refine Con.of (by decide +kernel) (Nat.le_of_ble_eq_true rfl) ?_
  refine mj_aload_n 0 dX11_rider_0 rfl ?_
  refine mj_getf dX11_rider_1 fgX11_7 x.ko rfl ?_
  refine mj_sipush (v := (408)) dX11_rider_4 rfl ?_
  refine mj_bipush (v := (8)) dX11_rider_7 rfl ?_
  refine mj_iload_n 1 dX11_rider_9 rfl ?_
  refine mj_imul dX11_rider_10 ?_
  refine mj_iadd dX11_rider_11 ?_
  refine mj_iload_n 2 dX11_rider_12 rfl ?_
  refine mj_iadd dX11_rider_13 ?_
  refine mj_iald x.kbrd (ix_rdr (by omega) (by omega)) (by first | assumption | omega | decide) dX11_rider_14 ?_
  exact mj_iret dX11_rider_15 rfl (Nat.le_of_ble_eq_true rfl) (Nat.le_of_ble_eq_true rfl) ⟨rfl, rfl, x⟩
set_option maxRecDepth 100000 in
set_option maxHeartbeats 4000000 in
theorem cn_X11_stop {K : KX} {n : Nat} {h : MH} {h0 : MH} {m : Nat} {M : MS} (x : Md h0 m M h) {d i : Nat} (hd : d < 8) (hi : i < 40) : Con K mX11_stop [.ref m, .int (nI d), .int (nI i)] 0 0 n h (RetP (some (.int (sF M d i))) n (Md h0 m (M))) := by
  refine Con.of (by decide +kernel) (Nat.le_of_ble_eq_true rfl) ?_
  refine mj_aload_n 0 dX11_stop_0 rfl ?_
  refine mj_getf dX11_stop_1 fgX11_7 x.ko rfl ?_
  refine mj_bipush (v := (88)) dX11_stop_4 rfl ?_
  refine mj_bipush (v := (40)) dX11_stop_6 rfl ?_
  refine mj_iload_n 1 dX11_stop_8 rfl ?_
  refine mj_imul dX11_stop_9 ?_
  refine mj_iadd dX11_stop_10 ?_
  refine mj_iload_n 2 dX11_stop_11 rfl ?_
  refine mj_iadd dX11_stop_12 ?_
  refine mj_iald x.kbrd (ix_stp (by omega) (by omega)) (by first | assumption | omega | decide) dX11_stop_13 ?_
  exact mj_iret dX11_stop_14 rfl (Nat.le_of_ble_eq_true rfl) (Nat.le_of_ble_eq_true rfl) ⟨rfl, rfl, x⟩
set_option maxRecDepth 100000 in
set_option maxHeartbeats 4000000 in
theorem cn_X11_setDriver {K : KX} {n : Nat} {h : MH} {h0 : MH} {m : Nat} {M : MS} (x : Md h0 m M h) {d f : Nat} {v : Int32} (hd : d < 8) (hf : f < 10) : Con K mX11_setDriver [.ref m, .int (nI d), .int (nI f), .int v] 0 0 n h (RetP none n (Md h0 m (wD M d f v))) := by
  refine Con.of (by decide +kernel) (Nat.le_of_ble_eq_true rfl) ?_
  refine mj_aload_n 0 dX11_setDriver_0 rfl ?_
  refine mj_getf dX11_setDriver_1 fgX11_7 x.ko rfl ?_
  refine mj_bipush (v := (8)) dX11_setDriver_4 rfl ?_
  refine mj_bipush (v := (10)) dX11_setDriver_6 rfl ?_
  refine mj_iload_n 1 dX11_setDriver_8 rfl ?_
  refine mj_imul dX11_setDriver_9 ?_
  refine mj_iadd dX11_setDriver_10 ?_
  refine mj_iload_n 2 dX11_setDriver_11 rfl ?_
  refine mj_iadd dX11_setDriver_12 ?_
  refine mj_iload_n 3 dX11_setDriver_13 rfl ?_
  refine mM_abrd x (ix_drv (by omega) (by omega)) (by first | assumption | omega | decide) dX11_setDriver_14 (fun h x => ?_)
  exact mj_vret dX11_setDriver_15 rfl (Nat.le_of_ble_eq_true rfl) (Nat.le_of_ble_eq_true rfl) ⟨rfl, rfl, x⟩
set_option maxRecDepth 100000 in
set_option maxHeartbeats 4000000 in
theorem cn_X11_setRider {K : KX} {n : Nat} {h : MH} {h0 : MH} {m : Nat} {M : MS} (x : Md h0 m M h) {r f : Nat} {v : Int32} (hr : r < 20) (hf : f < 8) : Con K mX11_setRider [.ref m, .int (nI r), .int (nI f), .int v] 0 0 n h (RetP none n (Md h0 m (wR M r f v))) := by
  refine Con.of (by decide +kernel) (Nat.le_of_ble_eq_true rfl) ?_
  refine mj_aload_n 0 dX11_setRider_0 rfl ?_
  refine mj_getf dX11_setRider_1 fgX11_7 x.ko rfl ?_
  refine mj_sipush (v := (408)) dX11_setRider_4 rfl ?_
  refine mj_bipush (v := (8)) dX11_setRider_7 rfl ?_
  refine mj_iload_n 1 dX11_setRider_9 rfl ?_
  refine mj_imul dX11_setRider_10 ?_
  refine mj_iadd dX11_setRider_11 ?_
  refine mj_iload_n 2 dX11_setRider_12 rfl ?_
  refine mj_iadd dX11_setRider_13 ?_
  refine mj_iload_n 3 dX11_setRider_14 rfl ?_
  refine mM_abrd x (ix_rdr (by omega) (by omega)) (by first | assumption | omega | decide) dX11_setRider_15 (fun h x => ?_)
  exact mj_vret dX11_setRider_16 rfl (Nat.le_of_ble_eq_true rfl) (Nat.le_of_ble_eq_true rfl) ⟨rfl, rfl, x⟩
set_option maxRecDepth 100000 in
set_option maxHeartbeats 4000000 in
theorem cn_X11_isDriver {K : KX} {n : Nat} {h : MH} {h0 : MH} {m : Nat} {M : MS} (x : Md h0 m M h) {i : Int32} : Con K mX11_isDriver [.ref m, .int i] 0 0 n h (RetP (some (.int (bI (b_in i 0 (gbrd M 1 - 1))))) n (Md h0 m (M))) := by
  refine Con.of (by decide +kernel) (Nat.le_of_ble_eq_true rfl) ?_
  refine mj_iload_n 1 dX11_isDriver_0 rfl ?_
  refine mj_iconst (v := 0) dX11_isDriver_1 rfl ?_
  refine mj_aload_n 0 dX11_isDriver_2 rfl ?_
  refine mj_getf dX11_isDriver_3 fgX11_7 x.ko rfl ?_
  refine mj_iconst (v := 1) dX11_isDriver_6 rfl ?_
  refine mj_iald x.kbrd ((show (1 : Int32).toInt = ((1 : Nat) : Int) from rfl)) (by first | assumption | omega | decide) dX11_isDriver_7 ?_
  refine mj_iconst (v := 1) dX11_isDriver_8 rfl ?_
  refine mj_isub dX11_isDriver_9 ?_
  refine mj_cS1 [_, _, _] dX11_isDriver_10 cwX11_isBetween lkX11_64 rfl (cn_X11_isBetween _ _ _) ⟨Nat.le_of_ble_eq_true rfl, Nat.le_of_ble_eq_true rfl, Nat.le_of_ble_eq_true rfl, Nat.le_of_ble_eq_true rfl, Nat.le_of_ble_eq_true rfl⟩ (fun h' e' => ?_)
  subst h'
  exact mj_zret dX11_isDriver_13 rfl (by cases (b_in i 0 (gbrd M 1 - 1)); exact Or.inl rfl; exact Or.inr rfl) (Nat.le_of_ble_eq_true rfl) (Nat.le_of_ble_eq_true rfl) ⟨rfl, rfl, x⟩
set_option maxRecDepth 100000 in
set_option maxHeartbeats 4000000 in
theorem cn_X11_isRider {K : KX} {n : Nat} {h : MH} {h0 : MH} {m : Nat} {M : MS} (x : Md h0 m M h) {i : Int32} : Con K mX11_isRider [.ref m, .int i] 0 0 n h (RetP (some (.int (bI (b_in i 0 (gbrd M 2 - 1))))) n (Md h0 m (M))) := by
  refine Con.of (by decide +kernel) (Nat.le_of_ble_eq_true rfl) ?_
  refine mj_iload_n 1 dX11_isRider_0 rfl ?_
  refine mj_iconst (v := 0) dX11_isRider_1 rfl ?_
  refine mj_aload_n 0 dX11_isRider_2 rfl ?_
  refine mj_getf dX11_isRider_3 fgX11_7 x.ko rfl ?_
  refine mj_iconst (v := 2) dX11_isRider_6 rfl ?_
  refine mj_iald x.kbrd ((show (2 : Int32).toInt = ((2 : Nat) : Int) from rfl)) (by first | assumption | omega | decide) dX11_isRider_7 ?_
  refine mj_iconst (v := 1) dX11_isRider_8 rfl ?_
  refine mj_isub dX11_isRider_9 ?_
  refine mj_cS1 [_, _, _] dX11_isRider_10 cwX11_isBetween lkX11_64 rfl (cn_X11_isBetween _ _ _) ⟨Nat.le_of_ble_eq_true rfl, Nat.le_of_ble_eq_true rfl, Nat.le_of_ble_eq_true rfl, Nat.le_of_ble_eq_true rfl, Nat.le_of_ble_eq_true rfl⟩ (fun h' e' => ?_)
  subst h'
  exact mj_zret dX11_isRider_13 rfl (by cases (b_in i 0 (gbrd M 2 - 1)); exact Or.inl rfl; exact Or.inr rfl) (Nat.le_of_ble_eq_true rfl) (Nat.le_of_ble_eq_true rfl) ⟨rfl, rfl, x⟩
