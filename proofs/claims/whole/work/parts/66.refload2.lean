theorem z_next_let {T : Nat → Int32} {m : Nat} {Z : ZS} : zlet (z_next T m Z) ≤ m := by
  unfold z_next z_at
  generalize k_run k_blank T m (m - zpos Z) (zpos Z) = p
  have h2 := r_word_le T (m - p) p 0 0
  split
  · exact Nat.zero_le _
  · split
    · show (r_word T (m - p) p 0 0).2.1 ≤ m; omega
    · split
      · exact Nat.zero_le _
      · exact Nat.zero_le _
theorem z_req_let (Z : ZS) (b : Bool) (c : Int32) : zlet (z_req Z b c) = zlet Z := by unfold z_req; split <;> rfl
theorem z_adv_let {T : Nat → Int32} {m : Nat} {Z : ZS} (h : zlet Z ≤ m) : zlet (z_adv T m Z) ≤ m := by
  unfold z_adv
  split
  · exact z_next_let
  · exact h
theorem z_pn_let {T : Nat → Int32} {m : Nat} {Z : ZS} {lo hi : Int32} (h : zlet Z ≤ m) : zlet (z_pn T m Z lo hi) ≤ m := z_adv_let (by rw [z_req_let, z_req_let]; exact h)
theorem z_pp_let {T : Nat → Int32} {m : Nat} {P : Nat → Int32} {Z : ZS} (h : zlet Z ≤ m) : ∀ k, zlet (z_pp T m P Z k).2 ≤ m
  | 0 => h
  | k + 1 => z_pn_let (z_pp_let h k)
theorem zd0_let {T : Nat → Int32} {m : Nat} {Z : ZS} {b : Bool} (h : zlet Z ≤ m) : zlet (zd0 T m Z b) ≤ m := by
  have h2 : zlet (z_req Z b 3) ≤ m := by rw [z_req_let]; exact h
  unfold zd0
  exact z_adv_let h2
theorem zpl_let {T : Nat → Int32} {m : Nat} {P : Nat → Int32} {Z : ZS} {b : Bool} (h : zlet Z ≤ m) : zlet (zpl T m P Z b).2 ≤ m := by
  have h2 : ∀ k, zlet (z_pp T m P (zd0 T m Z b) k).2 ≤ m := z_pp_let (zd0_let h)
  unfold zpl
  exact h2 4
theorem zd2_let {T : Nat → Int32} {m : Nat} {P : Nat → Int32} {Z : ZS} {b : Bool} (h : zlet Z ≤ m) : zlet (zd2 T m P Z b) ≤ m := by
  unfold zd2
  exact z_pn_let (zpl_let h)
theorem zd3_let {T : Nat → Int32} {m : Nat} {P : Nat → Int32} {Z : ZS} {b : Bool} (h : zlet Z ≤ m) : zlet (zd3 T m P Z b) ≤ m := by
  unfold zd3
  exact z_pn_let (zd2_let h)
theorem zd4_let {T : Nat → Int32} {m : Nat} {P : Nat → Int32} {Z : ZS} {b : Bool} (h : zlet Z ≤ m) : zlet (zd4 T m P Z b) ≤ m := by
  unfold zd4
  exact z_pn_let (zd3_let h)
theorem zd5_let {T : Nat → Int32} {m : Nat} {P : Nat → Int32} {Z : ZS} {b : Bool} (h : zlet Z ≤ m) : zlet (zd5 T m P Z b) ≤ m := by
  unfold zd5
  exact z_pn_let (zd4_let h)
theorem zr2_let {T : Nat → Int32} {m : Nat} {P : Nat → Int32} {Z : ZS} {b : Bool} (h : zlet Z ≤ m) : zlet (zr2 T m P Z b) ≤ m := by
  unfold zr2
  exact z_pn_let (zpl_let h)
theorem zr3_let {T : Nat → Int32} {m : Nat} {P : Nat → Int32} {Z : ZS} {b : Bool} (h : zlet Z ≤ m) : zlet (zr3 T m P Z b) ≤ m := by
  unfold zr3
  exact z_pn_let (zr2_let h)
theorem zp1_let {T : Nat → Int32} {m : Nat} {Z : ZS} (h : zlet Z ≤ m) : zlet (zp1 T m Z) ≤ m := by
  have h2 : zlet (z_req Z (z_isw Z 2) 1) ≤ m := by rw [z_req_let]; exact h
  unfold zp1
  exact z_adv_let h2
theorem zp2_let {T : Nat → Int32} {m : Nat} {Z : ZS} (h : zlet Z ≤ m) : zlet (zp2 T m Z) ≤ m := by
  unfold zp2
  exact z_pn_let (zp1_let h)
theorem pd_let {M : MS} {t : Nat} {Z : ZS} {nd : Nat} (h : zlet Z ≤ t) : zlet (pd M t Z nd).2 ≤ t := by
  rw [pd_2]
  exact zd5_let h
theorem pr_let {M : MS} {t : Nat} {Z : ZS} {nr : Nat} (h : zlet Z ≤ t) : zlet (pr M t Z nr).2 ≤ t := by
  rw [pr_2]
  exact zr3_let h
theorem ps1_let {M : MS} {t : Nat} {Z : ZS} {nd nr : Nat} (h : zlet Z ≤ t) : zlet (ps1 M t Z nd nr).2 ≤ t := by
  rcases ps1_c M t Z nd nr with e | e | e
  · rw [e]; exact pd_let h
  · rw [e]; exact pr_let h
  · rw [e, pp_2]; exact zp2_let h
theorem z_sc_let {T : Nat → Int32} {m : Nat} {Z : ZS} (h : zlet Z ≤ m) : zlet (z_sc T m Z) ≤ m := by
  have h2 : zlet (z_req Z (decide (ztok Z = 4)) 1) ≤ m := by rw [z_req_let]; exact h
  unfold z_sc
  exact z_adv_let h2
theorem z_sc_ok {T : Nat → Int32} {m : Nat} {Z : ZS} (h : zpos Z ≤ m) : zpos (z_sc T m Z) ≤ m := by
  have h2 : zpos (z_req Z (decide (ztok Z = 4)) 1) ≤ m := by rw [z_req_pos]; exact h
  unfold z_sc
  exact z_adv_ok h2
theorem ps_let {M : MS} {t : Nat} {Z : ZS} {nd nr : Nat} (h : zlet Z ≤ t) : zlet (ps M t Z nd nr).2 ≤ t := by
  rw [show (ps M t Z nd nr).2 = z_sc (gtxt M) t (ps1 M t Z nd nr).2 by unfold ps; dsimp only]
  exact z_sc_let (ps1_let h)
theorem ps_pos {M : MS} {t : Nat} {Z : ZS} {nd nr : Nat} (h : zpos Z ≤ t) : zpos (ps M t Z nd nr).2 ≤ t := by
  rw [show (ps M t Z nd nr).2 = z_sc (gtxt M) t (ps1 M t Z nd nr).2 by unfold ps; dsimp only]
  exact z_sc_ok (ps1_ok h)
/-- what a load leaves as it is -/
def kp (N : MS) : (Nat → Int32) × (Nat → Int64) × (Nat → Int32) × (Nat → Int64) × (Nat → Int32) × (Nat → Int32) × Int32 := (gbak N, gcbk N, gsav N, gcsv N, giss N, gtxt N, gtl N)
theorem kp_drv (M : MS) (P : Nat → Int32) (d : Nat) (se de li ra : Int32) : kp (pd_M M P d se de li ra) = kp M := rfl
theorem kp_rdr (M : MS) (P : Nat → Int32) (d : Nat) (se de : Int32) : kp (pr_M M P d se de) = kp M := rfl
theorem kp_plc (M : MS) (P : Nat → Int32) : kp (splc M P) = kp M := rfl
theorem kp_brd (M : MS) (g : Nat → Int32) : kp (sbrd M g) = kp M := rfl
theorem pd_kp {M : MS} {t : Nat} {Z : ZS} {nd : Nat} : kp (pd M t Z nd).1 = kp M := by
  rw [pd_1]
  unfold pdN
  exact ite_f (f := kp) (kp_drv _ _ _ _ _ _ _) (kp_plc _ _)
theorem pr_kp {M : MS} {t : Nat} {Z : ZS} {nd : Nat} : kp (pr M t Z nd).1 = kp M := by
  rw [pr_1]
  unfold prN
  exact ite_f (f := kp) (kp_rdr _ _ _ _ _) (kp_plc _ _)
theorem ps1_kp {M : MS} {t : Nat} {Z : ZS} {nd nr : Nat} : kp (ps1 M t Z nd nr).1 = kp M := by
  rcases ps1_c M t Z nd nr with e | e | e
  · rw [e]; exact pd_kp
  · rw [e]; exact pr_kp
  · rw [e, pp_1]; exact kp_brd _ _
theorem ps_1 (M : MS) (t : Nat) (Z : ZS) (nd nr : Nat) : (ps M t Z nd nr).1 = (ps1 M t Z nd nr).1 := by
  unfold ps
  dsimp only
theorem ps_2 (M : MS) (t : Nat) (Z : ZS) (nd nr : Nat) : (ps M t Z nd nr).2 = z_sc (gtxt M) t (ps1 M t Z nd nr).2 := by
  unfold ps
  dsimp only
theorem ps_kp {M : MS} {t : Nat} {Z : ZS} {nd nr : Nat} : kp (ps M t Z nd nr).1 = kp M := by
  rw [ps_1]
  exact ps1_kp
theorem a_zero_lo (g : Nat → Int32) (d : Nat) {j : Nat} (hj : j < 8) : ∀ k, a_zero g d k j = g j
  | 0 => rfl
  | k + 1 => by unfold a_zero upd; rw [if_neg (by omega)]; exact a_zero_lo g d hj k
theorem a_drvG_lo (g : Nat → Int32) (d : Nat) (se de li ra : Int32) {j : Nat} (hj : j < 8) : a_drvG g d se de li ra j = g j := by
  unfold a_drvG upd
  rw [if_neg (by omega), if_neg (by omega), if_neg (by omega), if_neg (by omega)]
  exact a_zero_lo g d hj 10
theorem a_tripG_lo (g : Nat → Int32) (d : Nat) (sx sy ex ey : Int32) {j : Nat} (hj : j < 8) : a_tripG g d sx sy ex ey j = g j := by
  unfold a_tripG upd
  rw [if_neg (by omega), if_neg (by omega), if_neg (by omega), if_neg (by omega)]
theorem a_rdrG_lo (g : Nat → Int32) (r : Nat) (fx fy tx ty rd dl : Int32) {j : Nat} (hj : j < 408) : a_rdrG g r fx fy tx ty rd dl j = g j := by
  unfold a_rdrG upd
  rw [if_neg (by omega), if_neg (by omega), if_neg (by omega), if_neg (by omega), if_neg (by omega), if_neg (by omega), if_neg (by omega), if_neg (by omega)]
theorem pd_M_12 {M : MS} {P : Nat → Int32} {d : Nat} {se de li ra : Int32} : gbrd (pd_M M P d se de li ra) 1 = nI (d + 1) ∧ gbrd (pd_M M P d se de li ra) 2 = gbrd M 2 := by
  have e : gbrd (pd_M M P d se de li ra) = a_tripG (upd (a_drvG (gbrd M) d se de li ra) 1 (nI (d + 1))) d (P 0) (P 1) (P 2) (P 3) := rfl
  rw [e]
  refine ⟨?_, ?_⟩
  · rw [a_tripG_lo _ _ _ _ _ _ (by omega)]; exact if_pos rfl
  · rw [a_tripG_lo _ _ _ _ _ _ (by omega)]
    exact (if_neg (by omega)).trans (a_drvG_lo _ _ _ _ _ _ (by omega))
theorem pr_M_12 {M : MS} {P : Nat → Int32} {r : Nat} {rd dl : Int32} : gbrd (pr_M M P r rd dl) 2 = nI (r + 1) ∧ gbrd (pr_M M P r rd dl) 1 = gbrd M 1 := by
  have e : gbrd (pr_M M P r rd dl) = upd (a_rdrG (gbrd M) r (P 0) (P 1) (P 2) (P 3) rd dl) 2 (nI (r + 1)) := rfl
  rw [e]
  refine ⟨if_pos rfl, ?_⟩
  exact (if_neg (by omega)).trans (a_rdrG_lo _ _ _ _ _ _ _ _ (by omega))
/-- the numbers of drivers and riders are in bounds -/
def BIn (N : MS) : Prop := (∃ d, d ≤ 8 ∧ gbrd N 1 = nI d) ∧ ∃ r, r ≤ 20 ∧ gbrd N 2 = nI r
theorem pd_in {M : MS} {t : Nat} {Z : ZS} {nd nr : Nat} (hnd : gbrd M 1 = nI nd) (h8 : nd ≤ 8) (hnr : gbrd M 2 = nI nr) (h20 : nr ≤ 20) : BIn (pd M t Z nd).1 := by
  rw [pd_1]
  unfold pdN
  by_cases c : zec (zd5 (gtxt M) t (gplc M) Z (decide (nd < 8))) = 0
  · rw [if_pos c]
    have hd8 : nd < 8 := Nat.lt_of_not_le fun z => absurd c (by rw [show decide (nd < 8) = false from decide_eq_false (by omega)]; exact zd5_ec)
    exact ⟨⟨nd + 1, by omega, pd_M_12.1⟩, ⟨nr, h20, pd_M_12.2.trans hnr⟩⟩
  · rw [if_neg c]
    exact ⟨⟨nd, h8, hnd⟩, ⟨nr, h20, hnr⟩⟩
theorem pr_in {M : MS} {t : Nat} {Z : ZS} {nd nr : Nat} (hnd : gbrd M 1 = nI nd) (h8 : nd ≤ 8) (hnr : gbrd M 2 = nI nr) (h20 : nr ≤ 20) : BIn (pr M t Z nr).1 := by
  rw [pr_1]
  unfold prN
  by_cases c : zec (zr3 (gtxt M) t (gplc M) Z (decide (nr < 20))) = 0
  · rw [if_pos c]
    have hd8 : nr < 20 := Nat.lt_of_not_le fun z => absurd c (by rw [show decide (nr < 20) = false from decide_eq_false (by omega)]; exact zr3_ec)
    exact ⟨⟨nd, h8, pr_M_12.2.trans hnd⟩, ⟨nr + 1, by omega, pr_M_12.1⟩⟩
  · rw [if_neg c]
    exact ⟨⟨nd, h8, hnd⟩, ⟨nr, h20, hnr⟩⟩
theorem pp__in {M : MS} {t : Nat} {Z : ZS} {nd nr : Nat} (hnd : gbrd M 1 = nI nd) (h8 : nd ≤ 8) (hnr : gbrd M 2 = nI nr) (h20 : nr ≤ 20) : BIn (pp_ M t Z).1 := by
  rw [pp_1]
  generalize (if zec (zp2 (gtxt M) t Z) = 0 then znum (zp1 (gtxt M) t Z) else gbrd M 0) = v
  exact ⟨⟨nd, h8, (show upd (gbrd M) 0 v 1 = gbrd M 1 from if_neg (by omega)).trans hnd⟩, ⟨nr, h20, (show upd (gbrd M) 0 v 2 = gbrd M 2 from if_neg (by omega)).trans hnr⟩⟩
theorem ps_in {M : MS} {t : Nat} {Z : ZS} {nd nr : Nat} (hnd : gbrd M 1 = nI nd) (h8 : nd ≤ 8) (hnr : gbrd M 2 = nI nr) (h20 : nr ≤ 20) : BIn (ps M t Z nd nr).1 := by
  rw [ps_1]
  rcases ps1_c M t Z nd nr with e | e | e
  · rw [e]; exact pd_in hnd h8 hnr h20
  · rw [e]; exact pr_in hnd h8 hnr h20
  · rw [e]; exact pp__in hnd h8 hnr h20
abbrev LS2 : Type := MS × ZS
def ld1 (t : Nat) (s : LS2) : LS2 := ps s.1 t s.2 (i_nat (gbrd s.1 1)) (i_nat (gbrd s.1 2))
def ld_go (s : LS2) : Prop := zec s.2 = 0 ∧ ¬ ztok s.2 = 0
def ld_run (t : Nat) : Nat → Nat → LS2 → Nat × LS2
  | 0, c, s => (c, s)
  | f + 1, c, s => if zec s.2 = 0 ∧ ¬ ztok s.2 = 0 then ld_run t f (c + 1) (ld1 t s) else (c, s)
theorem ld_run_s (t f c : Nat) (s : LS2) : ld_run t (f + 1) c s = if zec s.2 = 0 ∧ ¬ ztok s.2 = 0 then ld_run t f (c + 1) (ld1 t s) else (c, s) := rfl
def LdT (t : Nat) : Nat → LS2 → Prop
  | 0, s => ¬ ld_go s
  | f + 1, s => ¬ ld_go s ∨ LdT t f (ld1 t s)
theorem tkS_gecl (M : MS) (Z : ZS) (v : Int32) : gec (stl (tkS M Z) v) = zec Z := rfl
def ld_N (M : MS) (B : Nat → Int32) (C : Nat → Int64) (g : Nat → Int32) (c : Nat → Int64) : MS := nmS (scbk (sbak (sthr M 0) B) C) g c
theorem kp_N (M : MS) (B : Nat → Int32) (C : Nat → Int64) (g : Nat → Int32) (c : Nat → Int64) : kp (ld_N M B C g c) = (B, C, gsav M, gcsv M, giss M, gtxt M, gtl M) := rfl
theorem ld_N_g (M : MS) (B : Nat → Int32) (C : Nat → Int64) (g : Nat → Int32) (c : Nat → Int64) : gbrd (ld_N M B C g c) = g := rfl
theorem clrG_1 (g : Nat → Int32) : clrG g 1 = 0 := by
  unfold clrG upd fil
  rw [if_neg (by omega), if_pos (by omega)]
theorem clrG_2 (g : Nat → Int32) : clrG g 2 = 0 := by
  unfold clrG upd fil
  rw [if_neg (by omega), if_pos (by omega)]
theorem tkS_N {M : MS} {Z : ZS} (h : tkS M Z = M) (B : Nat → Int32) (C : Nat → Int64) (g : Nat → Int32) (c : Nat → Int64) : tkS (ld_N M B C g c) Z = ld_N M B C g c := by
  refine Prod.ext (funext fun j => ?_) ?_
  · have hj : zF M Z j = mF M j := congrArg (fun N : MS => mF N j) h
    show zF (ld_N M B C g c) Z j = mF (ld_N M B C g c) j
    have e : mF (ld_N M B C g c) j = if j = 7 then 0 else mF M j := rfl
    rw [e]
    unfold zF at hj ⊢
    rw [e]
    by_cases k : j = 7
    · subst k; rfl
    · rw [if_neg k]; exact hj
  · refine Prod.ext ?_ rfl
    have q := congrArg (fun N : MS => N.2.1) h
    exact q
theorem ld_cv {h0 h : MH} {m : Nat} {M M9 : MS} {B : Nat → Int32} {C : Nat → Int64} (sc : Sc (sthr M 0) M9) (hB : cpk (gbrd M) (gbak M) 0 0 568 = B) (hC : cpkL (gcrd M) (gcbk M) 0 0 28 = C) (x : Md h0 m (scbk (sbak M9 (cpk (gbrd M9) (gbak M9) 0 0 568)) (cpkL (gcrd M9) (gcbk M9) 0 0 28)) h) : Ms h0 m (scbk (sbak (sthr M 0) B) C) h := by
  have e1 : gbak M9 = gbak M := sc.a 2 rfl
  have e2 : gbrd M9 = gbrd M := sc.b
  have e3 : gcbk M9 = gcbk M := sc.l 5
  have e4 : gcrd M9 = gcrd M := sc.c
  rw [e1, e2, e3, e4, hB, hC] at x
  exact ⟨_, x, (sc.sA 2 _).sL 5 _⟩
def ld_Z0 (Z : ZS) : ZS := (0, ztst Z, ztok Z, zlet Z, znum Z, zwrd Z, 0, -1)
def ld_st (M : MS) (Z : ZS) (t : Nat) (B : Nat → Int32) (C : Nat → Int64) (g : Nat → Int32) (c : Nat → Int64) : LS2 := (ld_N M B C g c, z_next (gtxt M) t (ld_Z0 Z))
def ld_bk (M : MS) : MS := scrd (sbrd M (cpk (gbak M) (gbrd M) 0 0 568)) (cpkL (gcbk M) (gcrd M) 0 0 28)
set_option maxRecDepth 100000 in
set_option maxHeartbeats 4000000 in
theorem cs_load {K : KX} {n : Nat} {h : MH} {h0 : MH} {m : Nat} {M : MS} (x : Ms h0 m M h) {t : Nat} {Z : ZS} {B : Nat → Int32} {C : Nat → Int64} {g : Nat → Int32} {c : Nat → Int64} (hB : cpk (gbrd M) (gbak M) 0 0 568 = B) (hC : cpkL (gcrd M) (gcbk M) 0 0 28 = C) (hg : clrG (gbrd M) = g) (hc : clrC (gcrd M) = c) (hZ : tkS M Z = M) (ht : gtl M = nI t) (h6 : t ≤ 600) {F : Nat} (hT : LdT t F (ld_st M Z t B C g c)) {R : Nat × LS2} (hR : R = ld_run t F 0 (ld_st M Z t B C g c)) : Con K mX11_load [.ref m] 0 0 n h (fun r9 n9 h9 => n9 = n ∧ ((zec R.2.2 = 0 ∧ r9 = .inl (some (.int (nI R.1))) ∧ Ms h0 m (stl (tkS R.2.1 R.2.2) 0) h9) ∨ (¬ zec R.2.2 = 0 ∧ r9 = .inl (some (.int (-1))) ∧ Ms h0 m (ld_bk (stl (tkS R.2.1 R.2.2) 0)) h9))) := by
  refine Con.of (by decide +kernel) (Nat.le_of_ble_eq_true rfl) ?_
  have t80 : ∀ (cc : Nat) (s : LS2) (h1 : MH), R = (cc, s) → Ms h0 m (tkS s.1 s.2) h1 → GG (K, mX11_load, 0, 0, fun r9 n9 h9 => n9 = n ∧ ((zec R.2.2 = 0 ∧ r9 = .inl (some (.int (nI R.1))) ∧ Ms h0 m (stl (tkS R.2.1 R.2.2) 0) h9) ∨ (¬ zec R.2.2 = 0 ∧ r9 = .inl (some (.int (-1))) ∧ Ms h0 m (ld_bk (stl (tkS R.2.1 R.2.2) 0)) h9))) 0 0 80 [(1, .int (nI cc)), (0, .ref m)] [] n h1 := by
    intro cc s h1 hR x
    refine mj_aload_n 1 dX11_load_80 rfl ?_
    refine mj_iconst (v := 0) dX11_load_81 rfl ?_
    refine mS_ptl dX11_load_82 fgX11_277 x (fun h x => ?_)
    refine mj_aload_n 1 dX11_load_85 rfl ?_
    refine mS_gec dX11_load_86 fgX11_322 x ?_
    refine mj_eq (tkS_gecl _ _ _) ?_
    refine mj_if_eq 120 dX11_load_89 (by decide) (fun c_89 => ?_) (fun c_89 => ?_)
    · refine mj_iload_n 0 dX11_load_120 rfl ?_
      exact mj_iret dX11_load_121 rfl (Nat.le_of_ble_eq_true rfl) (Nat.le_of_ble_eq_true rfl) (by rw [hR]; exact ⟨rfl, Or.inl ⟨c_89, rfl, x⟩⟩)
    · obtain ⟨M9, x, sc⟩ := x
      refine mj_aload_n 1 dX11_load_92 rfl ?_
      refine mj_getf dX11_load_93 fgX11_13 x.ko rfl ?_
      refine mj_iconst (v := 0) dX11_load_96 rfl ?_
      refine mj_aload_n 1 dX11_load_97 rfl ?_
      refine mj_getf dX11_load_98 fgX11_7 x.ko rfl ?_
      refine mj_iconst (v := 0) dX11_load_101 rfl ?_
      refine mj_cS0 [_, .int (nI 0), _, .int (nI 0)] dX11_load_102 cwX11_copyInts lkX11_355 rfl (cn_X11_copyInts x.kbak x.kbrd (by omega) (by omega) (by omega) (by omega) (by omega)) ⟨Nat.le_of_ble_eq_true rfl, Nat.le_of_ble_eq_true rfl, Nat.le_of_ble_eq_true rfl, Nat.le_of_ble_eq_true rfl, Nat.le_of_ble_eq_true rfl⟩ (fun h e' => ?_)
      subst e'
      have x := x.pbrd (cpk (gbak M9) (gbrd M9) 0 0 568)
      refine mj_aload_n 1 dX11_load_105 rfl ?_
      refine mj_getf dX11_load_106 fgX11_23 x.ko rfl ?_
      refine mj_iconst (v := 0) dX11_load_109 rfl ?_
      refine mj_aload_n 1 dX11_load_110 rfl ?_
      refine mj_getf dX11_load_111 fgX11_19 x.ko rfl ?_
      refine mj_iconst (v := 0) dX11_load_114 rfl ?_
      refine mj_cS0 [_, .int (nI 0), _, .int (nI 0)] dX11_load_115 cwX11_copyCredits lkX11_359 rfl (cn_X11_copyCredits x.kcbk x.kcrd (by omega) (by omega) (by omega) (by omega) (by omega)) ⟨Nat.le_of_ble_eq_true rfl, Nat.le_of_ble_eq_true rfl, Nat.le_of_ble_eq_true rfl, Nat.le_of_ble_eq_true rfl, Nat.le_of_ble_eq_true rfl⟩ (fun h e' => ?_)
      subst e'
      have x := x.pcrd (cpkL (gcbk M9) (gcrd M9) 0 0 28)
      refine mj_iconst (v := (-1)) dX11_load_118 rfl ?_
      have e1 : gbak M9 = gbak (stl (tkS s.1 s.2) 0) := sc.a 2 rfl
      have e2 : gbrd M9 = gbrd (stl (tkS s.1 s.2) 0) := sc.b
      have e3 : gcbk M9 = gcbk (stl (tkS s.1 s.2) 0) := sc.l 5
      have e4 : gcrd M9 = gcrd (stl (tkS s.1 s.2) 0) := sc.c
      exact mj_iret dX11_load_119 rfl (Nat.le_of_ble_eq_true rfl) (Nat.le_of_ble_eq_true rfl) (by
        rw [hR]
        refine ⟨rfl, Or.inr ⟨c_89, rfl, _, x, ?_⟩⟩
        unfold ld_bk
        rw [e1, e2, e3, e4]
        exact (sc.sA 1 _).sL 4 _)
  have loop : ∀ (f cc : Nat) (s : LS2) (h1 : MH), kp s.1 = kp (ld_N M B C g c) ∧ BIn s.1 ∧ zpos s.2 ≤ t ∧ zlet s.2 ≤ t → LdT t f s → R = ld_run t f cc s → Ms h0 m (tkS s.1 s.2) h1 → GG (K, mX11_load, 0, 0, fun r9 n9 h9 => n9 = n ∧ ((zec R.2.2 = 0 ∧ r9 = .inl (some (.int (nI R.1))) ∧ Ms h0 m (stl (tkS R.2.1 R.2.2) 0) h9) ∨ (¬ zec R.2.2 = 0 ∧ r9 = .inl (some (.int (-1))) ∧ Ms h0 m (ld_bk (stl (tkS R.2.1 R.2.2) 0)) h9))) 0 0 56 [(1, .int (nI cc)), (0, .ref m)] [] n h1 := by
    intro f
    induction f with
    | zero =>
      intro cc s h1 hI hT hR x
      have hT : ¬ (zec s.2 = 0 ∧ ¬ ztok s.2 = 0) := hT
      refine mj_aload_n 1 dX11_load_56 rfl ?_
      refine mS_gec dX11_load_57 fgX11_322 x ?_
      refine mj_eq (tkS_gec _ _) ?_
      refine mj_if_ne 80 dX11_load_60 (by decide) (fun c_60 => ?_) (fun c_60 => ?_)
      · exact mj_ls [0, 1] rfl (t80 cc s _ hR x)
      · refine mj_aload_n 1 dX11_load_63 rfl ?_
        refine mS_gtok dX11_load_64 fgX11_299 x ?_
        refine mj_eq (tkS_gtok _ _) ?_
        refine mj_if_eq 80 dX11_load_67 (by decide) (fun c_67 => ?_) (fun c_67 => ?_)
        · exact mj_ls [0, 1] rfl (t80 cc s _ hR x)
        · exact absurd ⟨c_60, c_67⟩ hT
    | succ f ih =>
      intro cc s h1 hI hT hR x
      refine mj_aload_n 1 dX11_load_56 rfl ?_
      refine mS_gec dX11_load_57 fgX11_322 x ?_
      refine mj_eq (tkS_gec _ _) ?_
      refine mj_if_ne 80 dX11_load_60 (by decide) (fun c_60 => ?_) (fun c_60 => ?_)
      · exact mj_ls [0, 1] rfl (t80 cc s _ (by rw [hR, ld_run_s, if_neg (fun z => c_60 z.1)]) x)
      · refine mj_aload_n 1 dX11_load_63 rfl ?_
        refine mS_gtok dX11_load_64 fgX11_299 x ?_
        refine mj_eq (tkS_gtok _ _) ?_
        refine mj_if_eq 80 dX11_load_67 (by decide) (fun c_67 => ?_) (fun c_67 => ?_)
        · exact mj_ls [0, 1] rfl (t80 cc s _ (by rw [hR, ld_run_s, if_neg (fun z => z.2 c_67)]) x)
        · obtain ⟨hk, ⟨⟨d, h8, hd⟩, r, h20, hr⟩, hpo, hle⟩ := hI
          have hgo : zec s.2 = 0 ∧ ¬ ztok s.2 = 0 := ⟨c_60, c_67⟩
          have htl : gtl s.1 = nI t := ((congrArg (fun z => z.2.2.2.2.2.2) hk).trans (congrArg (fun z => z.2.2.2.2.2.2) (kp_N M B C g c))).trans ht
          have ed : i_nat (gbrd s.1 1) = d := by rw [hd, i_nat_nI (by omega)]
          have er : i_nat (gbrd s.1 2) = r := by rw [hr, i_nat_nI (by omega)]
          have e1 : ld1 t s = ps s.1 t s.2 d r := by unfold ld1; rw [ed, er]
          refine mj_aload_n 1 dX11_load_70 rfl ?_
          refine mS_cV0 x [] dX11_load_71 cwX11_parseStatement lkX11_366 rfl rfl rfl (cs_parseStatement x htl h6 hpo hle hd h8 hr h20) ⟨Nat.le_of_ble_eq_true rfl, Nat.le_of_ble_eq_true rfl, Nat.le_of_ble_eq_true rfl, Nat.le_of_ble_eq_true rfl, Nat.le_of_ble_eq_true rfl⟩ (fun h x => ?_)
          refine mj_iinc (ls' := [(1, _), (0, _)]) 0 dX11_load_74 rfl (nI_s _) (Nat.le_of_ble_eq_true rfl) rfl ?_
          refine mj_goto 56 dX11_load_77 (by decide) ?_
          exact mj_ls [0, 1] rfl (ih (cc + 1) (ps s.1 t s.2 d r) _ ⟨ps_kp.trans hk, ps_in hd h8 hr h20, ps_pos hpo, ps_let hle⟩ (by have q9 := hT; unfold LdT at q9; rw [e1] at q9; exact q9.resolve_left (fun z => z hgo)) (by rw [hR, ld_run_s, if_pos hgo, e1]) x)
  refine mj_aload_n 0 dX11_load_0 rfl ?_
  refine mj_iconst (v := 0) dX11_load_1 rfl ?_
  refine mS_pthr dX11_load_2 fgX11_61 x (fun h x => ?_)
  obtain ⟨M9, x, sc⟩ := x
  refine mj_aload_n 0 dX11_load_5 rfl ?_
  refine mj_getf dX11_load_6 fgX11_7 x.ko rfl ?_
  refine mj_iconst (v := 0) dX11_load_9 rfl ?_
  refine mj_aload_n 0 dX11_load_10 rfl ?_
  refine mj_getf dX11_load_11 fgX11_13 x.ko rfl ?_
  refine mj_iconst (v := 0) dX11_load_14 rfl ?_
  refine mj_cS0 [_, .int (nI 0), _, .int (nI 0)] dX11_load_15 cwX11_copyInts lkX11_355 rfl (cn_X11_copyInts x.kbrd x.kbak (by omega) (by omega) (by omega) (by omega) (by omega)) ⟨Nat.le_of_ble_eq_true rfl, Nat.le_of_ble_eq_true rfl, Nat.le_of_ble_eq_true rfl, Nat.le_of_ble_eq_true rfl, Nat.le_of_ble_eq_true rfl⟩ (fun h e' => ?_)
  subst e'
  have x := x.pbak (cpk (gbrd M9) (gbak M9) 0 0 568)
  refine mj_aload_n 0 dX11_load_18 rfl ?_
  refine mj_getf dX11_load_19 fgX11_19 x.ko rfl ?_
  refine mj_iconst (v := 0) dX11_load_22 rfl ?_
  refine mj_aload_n 0 dX11_load_23 rfl ?_
  refine mj_getf dX11_load_24 fgX11_23 x.ko rfl ?_
  refine mj_iconst (v := 0) dX11_load_27 rfl ?_
  refine mj_cS0 [_, .int (nI 0), _, .int (nI 0)] dX11_load_28 cwX11_copyCredits lkX11_359 rfl (cn_X11_copyCredits x.kcrd x.kcbk (by omega) (by omega) (by omega) (by omega) (by omega)) ⟨Nat.le_of_ble_eq_true rfl, Nat.le_of_ble_eq_true rfl, Nat.le_of_ble_eq_true rfl, Nat.le_of_ble_eq_true rfl, Nat.le_of_ble_eq_true rfl⟩ (fun h e' => ?_)
  subst e'
  have x := ld_cv sc hB hC (x.pcbk (cpkL (gcrd M9) (gcbk M9) 0 0 28))
  refine mj_aload_n 0 dX11_load_31 rfl ?_
  refine mS_cV0 x [] dX11_load_32 cwX11_clearBoard lkX11_363 rfl rfl rfl (cs_clearBoard x) ⟨Nat.le_of_ble_eq_true rfl, Nat.le_of_ble_eq_true rfl, Nat.le_of_ble_eq_true rfl, Nat.le_of_ble_eq_true rfl, Nat.le_of_ble_eq_true rfl⟩ (fun h x => ?_)
  have x : Ms h0 m (ld_N M B C g c) h := by rw [← hg, ← hc]; exact x
  rw [← tkS_N hZ] at x
  refine mj_aload_n 0 dX11_load_35 rfl ?_
  refine mj_iconst (v := 0) dX11_load_36 rfl ?_
  refine mS_pec dX11_load_37 fgX11_322 x (fun h x => ?_)
  rw [tkS_ec'] at x
  refine mj_aload_n 0 dX11_load_40 rfl ?_
  refine mj_iconst (v := (-1)) dX11_load_41 rfl ?_
  refine mS_pep dX11_load_42 fgX11_54 x (fun h x => ?_)
  rw [tkS_ep'] at x
  refine mj_aload_n 0 dX11_load_45 rfl ?_
  refine mj_iconst (v := 0) dX11_load_46 rfl ?_
  refine mS_ppos dX11_load_47 fgX11_280 x (fun h x => ?_)
  rw [show spos (tkS (ld_N M B C g c) (zpos Z, ztst Z, ztok Z, zlet Z, znum Z, zwrd Z, 0, -1)) 0 = tkS (ld_N M B C g c) (ld_Z0 Z) from tkS_pos _ _ _ _ _ _ _ _ _ 0] at x
  refine mj_aload_n 0 dX11_load_50 rfl ?_
  refine mS_cV0 x [] dX11_load_51 cwX11_nextToken lkX11_325 rfl rfl rfl (cs_nextToken (M := ld_N M B C g c) x ((congrArg (fun z => z.2.2.2.2.2.2) (kp_N M B C g c)).trans ht) h6 (Nat.zero_le _)) ⟨Nat.le_of_ble_eq_true rfl, Nat.le_of_ble_eq_true rfl, Nat.le_of_ble_eq_true rfl, Nat.le_of_ble_eq_true rfl, Nat.le_of_ble_eq_true rfl⟩ (fun h x => ?_)
  refine mj_iconst (v := 0) dX11_load_54 rfl ?_
  refine mj_istore_n (ls' := [(1, _), (0, _)]) dX11_load_55 (Nat.le_of_ble_eq_true rfl) rfl ?_
  have hN0 : kp (ld_N M B C g c) = kp (ld_N M B C g c) ∧ BIn (ld_N M B C g c) ∧ zpos (z_next (gtxt M) t (ld_Z0 Z)) ≤ t ∧ zlet (z_next (gtxt M) t (ld_Z0 Z)) ≤ t := ⟨rfl, ⟨⟨0, by omega, by rw [ld_N_g, ← hg, clrG_1]; rfl⟩, ⟨0, by omega, by rw [ld_N_g, ← hg, clrG_2]; rfl⟩⟩, z_next_ok (Nat.zero_le _), z_next_let⟩
  exact mj_ls [0, 1] rfl (loop F 0 (ld_st M Z t B C g c) _ hN0 hT hR x)
