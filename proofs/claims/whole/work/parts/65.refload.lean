theorem tk_pair {h0 h : MH} {m : Nat} {p : MS × ZS} {a : MS} {b : ZS} (e : p = (a, b)) (x : Ms h0 m (tkS a b) h) : Ms h0 m (tkS p.1 p.2) h := by
  subst e
  exact x
theorem tkS_gec (M : MS) (Z : ZS) : gec (tkS M Z) = zec Z := rfl
theorem tkS_gtok (M : MS) (Z : ZS) : gtok (tkS M Z) = ztok Z := rfl
theorem splc_gp (M : MS) (P : Nat → Int32) : gplc (splc M P) = P := rfl
theorem splc_gt (M : MS) (P : Nat → Int32) : gtxt (splc M P) = gtxt M := rfl
theorem cs_parseNumberT {K : KX} {n : Nat} {h : MH} {h0 : MH} {m : Nat} {M : MS} {Z : ZS} (x : Ms h0 m (tkS M Z) h) {T : Nat → Int32} (hT : gtxt M = T) {lo hi : Int32} {t : Nat} (ht : gtl M = nI t) (h6 : t ≤ 600) (hp : zpos Z ≤ t) : Con K mX11_parseNumber [.ref m, .int lo, .int hi] 0 0 n h (RetP (some (.int (znum Z))) n (Ms h0 m (tkS M (z_pn T t Z lo hi)))) := by
  subst hT
  exact cs_parseNumber x ht h6 hp
theorem tkS_crd (M : MS) (Z : ZS) (c : Nat → Int64) : scrd (tkS M Z) c = tkS (scrd M c) Z := rfl
theorem tkS_gb (M : MS) (Z : ZS) : gbrd (tkS M Z) = gbrd M := rfl
theorem tkS_gc (M : MS) (Z : ZS) : gcrd (tkS M Z) = gcrd M := rfl
theorem tkS_gp (M : MS) (Z : ZS) : gplc (tkS M Z) = gplc M := rfl
theorem a_drv_tk (M : MS) (Z : ZS) (d : Nat) (se de li ra : Int32) : a_drv (tkS M Z) d se de li ra = tkS (a_drv M d se de li ra) Z := by
  unfold a_drv
  rw [tkS_gb, tkS_gc, tkS_brd, tkS_crd, tkS_brd]
theorem a_drv_gp (M : MS) (d : Nat) (se de li ra : Int32) : gplc (a_drv M d se de li ra) = gplc M := by
  unfold a_drv
  rfl
theorem a_rdr_tk (M : MS) (Z : ZS) (r : Nat) (fx fy tx ty rd dl : Int32) : a_rdr (tkS M Z) r fx fy tx ty rd dl = tkS (a_rdr M r fx fy tx ty rd dl) Z := by
  unfold a_rdr
  rw [tkS_gb, tkS_gc, tkS_brd, tkS_crd, tkS_brd]
def zd0 (T : Nat → Int32) (m : Nat) (Z : ZS) (b : Bool) : ZS := z_adv T m (z_req Z b 3)
theorem zd0_ok {T : Nat → Int32} {m : Nat} {Z : ZS} {b : Bool} (h : zpos Z ≤ m) : zpos (zd0 T m Z b) ≤ m := z_adv_ok (by rw [z_req_pos]; exact h)
theorem z_req_f {Z : ZS} {c : Int32} (hc : ¬ c = 0) : ¬ zec (z_req Z false c) = 0 := by
  unfold z_req
  by_cases e : zec Z = 0
  · rw [if_pos ⟨rfl, e⟩]; exact hc
  · rw [if_neg (fun z => e z.2)]; exact e
theorem zd0_ec {T : Nat → Int32} {m : Nat} {Z : ZS} : ¬ zec (zd0 T m Z false) = 0 := by
  have h := z_req_f (Z := Z) (c := 3) (by decide)
  unfold zd0
  rw [z_adv_ec h]
  exact h
def zpl (T : Nat → Int32) (m : Nat) (P : Nat → Int32) (Z : ZS) (b : Bool) : (Nat → Int32) × ZS := z_pp T m P (zd0 T m Z b) 4
def zd2 (T : Nat → Int32) (m : Nat) (P : Nat → Int32) (Z : ZS) (b : Bool) : ZS := z_pn T m (zpl T m P Z b).2 1 4
def zd3 (T : Nat → Int32) (m : Nat) (P : Nat → Int32) (Z : ZS) (b : Bool) : ZS := z_pn T m (zd2 T m P Z b) 0 1439
def zd4 (T : Nat → Int32) (m : Nat) (P : Nat → Int32) (Z : ZS) (b : Bool) : ZS := z_pn T m (zd3 T m P Z b) 0 400
def zd5 (T : Nat → Int32) (m : Nat) (P : Nat → Int32) (Z : ZS) (b : Bool) : ZS := z_pn T m (zd4 T m P Z b) 1 99
theorem zpl_ok {T : Nat → Int32} {m : Nat} {P : Nat → Int32} {Z : ZS} {b : Bool} (h : zpos Z ≤ m) : zpos (zpl T m P Z b).2 ≤ m := z_pp_ok (zd0_ok h) 4
theorem zd2_ok {T : Nat → Int32} {m : Nat} {P : Nat → Int32} {Z : ZS} {b : Bool} (h : zpos Z ≤ m) : zpos (zd2 T m P Z b) ≤ m := z_pn_ok (zpl_ok h)
theorem zd3_ok {T : Nat → Int32} {m : Nat} {P : Nat → Int32} {Z : ZS} {b : Bool} (h : zpos Z ≤ m) : zpos (zd3 T m P Z b) ≤ m := z_pn_ok (zd2_ok h)
theorem zd4_ok {T : Nat → Int32} {m : Nat} {P : Nat → Int32} {Z : ZS} {b : Bool} (h : zpos Z ≤ m) : zpos (zd4 T m P Z b) ≤ m := z_pn_ok (zd3_ok h)
theorem zd5_ok {T : Nat → Int32} {m : Nat} {P : Nat → Int32} {Z : ZS} {b : Bool} (h : zpos Z ≤ m) : zpos (zd5 T m P Z b) ≤ m := z_pn_ok (zd4_ok h)
theorem zpl_ec {T : Nat → Int32} {m : Nat} {P : Nat → Int32} {Z : ZS} : ¬ zec (zpl T m P Z false).2 = 0 := by
  unfold zpl
  rw [z_pp_ec zd0_ec]
  exact zd0_ec
theorem zd5_ec {T : Nat → Int32} {m : Nat} {P : Nat → Int32} {Z : ZS} : ¬ zec (zd5 T m P Z false) = 0 := by
  have h := zpl_ec (T := T) (m := m) (P := P) (Z := Z)
  unfold zd5 zd4 zd3 zd2
  rw [z_pn_ec (Z := (zpl T m P Z false).2) h, z_pn_ec h, z_pn_ec h, z_pn_ec h]
  exact h
def pd_M (M : MS) (P : Nat → Int32) (d : Nat) (se de li ra : Int32) : MS := sbrd (a_drv (splc M P) d se de li ra) (a_tripG (gbrd (a_drv (splc M P) d se de li ra)) d (P 0) (P 1) (P 2) (P 3))
/-- a driver's statement, but for its semicolon -/
def pdN (M : MS) (t : Nat) (Z : ZS) (nd : Nat) : MS :=
  if zec (zd5 (gtxt M) t (gplc M) Z (decide (nd < 8))) = 0 then
    pd_M M (zpl (gtxt M) t (gplc M) Z (decide (nd < 8))).1 nd (znum (zpl (gtxt M) t (gplc M) Z (decide (nd < 8))).2) (znum (zd2 (gtxt M) t (gplc M) Z (decide (nd < 8)))) (znum (zd3 (gtxt M) t (gplc M) Z (decide (nd < 8)))) (znum (zd4 (gtxt M) t (gplc M) Z (decide (nd < 8))))
  else splc M (zpl (gtxt M) t (gplc M) Z (decide (nd < 8))).1
def pd (M : MS) (t : Nat) (Z : ZS) (nd : Nat) : MS × ZS := (pdN M t Z nd, zd5 (gtxt M) t (gplc M) Z (decide (nd < 8)))
theorem pd_1 (M : MS) (t : Nat) (Z : ZS) (nd : Nat) : (pd M t Z nd).1 = pdN M t Z nd := by
  unfold pd
  dsimp only
theorem pd_2 (M : MS) (t : Nat) (Z : ZS) (nd : Nat) : (pd M t Z nd).2 = zd5 (gtxt M) t (gplc M) Z (decide (nd < 8)) := by
  unfold pd
  dsimp only
theorem pdN_n {M : MS} {t : Nat} {Z : ZS} {nd : Nat} (h : ¬ zec (zd5 (gtxt M) t (gplc M) Z (decide (nd < 8))) = 0) : pdN M t Z nd = splc M (zpl (gtxt M) t (gplc M) Z (decide (nd < 8))).1 := by
  unfold pdN
  exact if_neg h
theorem pdN_p {M : MS} {t : Nat} {Z : ZS} {nd : Nat} (h : zec (zd5 (gtxt M) t (gplc M) Z (decide (nd < 8))) = 0) : pdN M t Z nd = pd_M M (zpl (gtxt M) t (gplc M) Z (decide (nd < 8))).1 nd (znum (zpl (gtxt M) t (gplc M) Z (decide (nd < 8))).2) (znum (zd2 (gtxt M) t (gplc M) Z (decide (nd < 8)))) (znum (zd3 (gtxt M) t (gplc M) Z (decide (nd < 8)))) (znum (zd4 (gtxt M) t (gplc M) Z (decide (nd < 8)))) := by
  unfold pdN
  exact if_pos h
theorem tk_n {h0 h : MH} {m : Nat} {N a : MS} {Z : ZS} (e : N = a) (x : Ms h0 m (tkS a Z) h) : Ms h0 m (tkS N Z) h := by
  subst e
  exact x
set_option maxRecDepth 100000 in
set_option maxHeartbeats 4000000 in
theorem cs_parseDriver {K : KX} {n : Nat} {h : MH} {h0 : MH} {m : Nat} {M : MS} {Z : ZS} (x : Ms h0 m (tkS M Z) h) {t : Nat} (ht : gtl M = nI t) (h6 : t ≤ 600) (hp : zpos Z ≤ t) {nd : Nat} (hnd : gbrd M 1 = nI nd) (h8 : nd ≤ 8) : Con K mX11_parseDriver [.ref m] 0 0 n h (RetP (none) n (Ms h0 m (tkS (pd M t Z nd).1 (pd M t Z nd).2))) := by
  refine Con.of (by decide +kernel) (Nat.le_of_ble_eq_true rfl) ?_
  refine mj_aload_n 0 dX11_parseDriver_0 rfl ?_
  refine mj_aload_n 0 dX11_parseDriver_1 rfl ?_
  refine mS_gbrd dX11_parseDriver_2 fgX11_7 x ?_
  refine mj_iconst (v := 1) dX11_parseDriver_5 rfl ?_
  refine mS_lbrd x ((show (1 : Int32).toInt = ((1 : Nat) : Int) from rfl)) (by first | assumption | omega | decide) dX11_parseDriver_6 ?_
  refine mj_eq (hnd) ?_
  refine mj_bipush (v := (8)) dX11_parseDriver_7 rfl ?_
  refine mj_icmp_ge 16 dX11_parseDriver_9 (by decide) (fun c_9 => ?_) (fun c_9 => ?_)
  · have y1 : ¬ nd < 8 := fun z => nI_ge z (by omega) (show nI 8 ≤ nI nd from c_9)
    refine mj_iconst (v := 0) dX11_parseDriver_16 rfl ?_
    refine mj_iconst (v := 3) dX11_parseDriver_17 rfl ?_
    refine mS_cV0 x [_, _] dX11_parseDriver_18 cwX11_require lkX11_328 rfl rfl rfl (cs_require x (b := decide (nd < 8)) (code := 3) (by first | (rw [decide_eq_true y1]; rfl) | (rw [decide_eq_false y1]; rfl))) ⟨Nat.le_of_ble_eq_true rfl, Nat.le_of_ble_eq_true rfl, Nat.le_of_ble_eq_true rfl, Nat.le_of_ble_eq_true rfl, Nat.le_of_ble_eq_true rfl⟩ (fun h x => ?_)
    refine mj_aload_n 0 dX11_parseDriver_21 rfl ?_
    refine mS_cV0 x [] dX11_parseDriver_22 cwX11_advance lkX11_332 rfl rfl rfl (cs_advance x ht h6 (by rw [z_req_pos]; exact hp)) ⟨Nat.le_of_ble_eq_true rfl, Nat.le_of_ble_eq_true rfl, Nat.le_of_ble_eq_true rfl, Nat.le_of_ble_eq_true rfl, Nat.le_of_ble_eq_true rfl⟩ (fun h x => ?_)
    refine mj_aload_n 0 dX11_parseDriver_25 rfl ?_
    refine mS_cV0 x [] dX11_parseDriver_26 cwX11_parsePlaces lkX11_338 rfl rfl rfl (cs_parsePlaces (Z := zd0 (gtxt M) t Z (decide (nd < 8))) x ht h6 (zd0_ok hp)) ⟨Nat.le_of_ble_eq_true rfl, Nat.le_of_ble_eq_true rfl, Nat.le_of_ble_eq_true rfl, Nat.le_of_ble_eq_true rfl, Nat.le_of_ble_eq_true rfl⟩ (fun h x => ?_)
    have x : Ms h0 m (tkS (splc M (zpl (gtxt M) t (gplc M) Z (decide (nd < 8))).1) (zpl (gtxt M) t (gplc M) Z (decide (nd < 8))).2) h := x
    refine mj_aload_n 0 dX11_parseDriver_29 rfl ?_
    refine mj_iconst (v := 1) dX11_parseDriver_30 rfl ?_
    refine mj_iconst (v := 4) dX11_parseDriver_31 rfl ?_
    refine mS_cV1 x [_, _] dX11_parseDriver_32 cwX11_parseNumber lkX11_335 rfl rfl rfl (cs_parseNumberT (M := splc M (zpl (gtxt M) t (gplc M) Z (decide (nd < 8))).1) (Z := (zpl (gtxt M) t (gplc M) Z (decide (nd < 8))).2) x (T := gtxt M) (splc_gt _ _) (t := t) ht h6 (zpl_ok hp)) ⟨Nat.le_of_ble_eq_true rfl, Nat.le_of_ble_eq_true rfl, Nat.le_of_ble_eq_true rfl, Nat.le_of_ble_eq_true rfl, Nat.le_of_ble_eq_true rfl⟩ (fun h x => ?_)
    have x : Ms h0 m (tkS (splc M (zpl (gtxt M) t (gplc M) Z (decide (nd < 8))).1) (zd2 (gtxt M) t (gplc M) Z (decide (nd < 8)))) h := x
    refine mj_istore_n (ls' := [(1, _), (0, _)]) dX11_parseDriver_35 (Nat.le_of_ble_eq_true rfl) rfl ?_
    refine mj_aload_n 1 dX11_parseDriver_36 rfl ?_
    refine mj_iconst (v := 0) dX11_parseDriver_37 rfl ?_
    refine mj_sipush (v := (1439)) dX11_parseDriver_38 rfl ?_
    refine mS_cV1 x [_, _] dX11_parseDriver_41 cwX11_parseNumber lkX11_335 rfl rfl rfl (cs_parseNumberT (M := splc M (zpl (gtxt M) t (gplc M) Z (decide (nd < 8))).1) (Z := zd2 (gtxt M) t (gplc M) Z (decide (nd < 8))) x (T := gtxt M) (splc_gt _ _) (t := t) ht h6 (zd2_ok hp)) ⟨Nat.le_of_ble_eq_true rfl, Nat.le_of_ble_eq_true rfl, Nat.le_of_ble_eq_true rfl, Nat.le_of_ble_eq_true rfl, Nat.le_of_ble_eq_true rfl⟩ (fun h x => ?_)
    have x : Ms h0 m (tkS (splc M (zpl (gtxt M) t (gplc M) Z (decide (nd < 8))).1) (zd3 (gtxt M) t (gplc M) Z (decide (nd < 8)))) h := x
    refine mj_istore_n (ls' := [(2, _), (1, _), (0, _)]) dX11_parseDriver_44 (Nat.le_of_ble_eq_true rfl) rfl ?_
    refine mj_aload_n 2 dX11_parseDriver_45 rfl ?_
    refine mj_iconst (v := 0) dX11_parseDriver_46 rfl ?_
    refine mj_sipush (v := (400)) dX11_parseDriver_47 rfl ?_
    refine mS_cV1 x [_, _] dX11_parseDriver_50 cwX11_parseNumber lkX11_335 rfl rfl rfl (cs_parseNumberT (M := splc M (zpl (gtxt M) t (gplc M) Z (decide (nd < 8))).1) (Z := zd3 (gtxt M) t (gplc M) Z (decide (nd < 8))) x (T := gtxt M) (splc_gt _ _) (t := t) ht h6 (zd3_ok hp)) ⟨Nat.le_of_ble_eq_true rfl, Nat.le_of_ble_eq_true rfl, Nat.le_of_ble_eq_true rfl, Nat.le_of_ble_eq_true rfl, Nat.le_of_ble_eq_true rfl⟩ (fun h x => ?_)
    have x : Ms h0 m (tkS (splc M (zpl (gtxt M) t (gplc M) Z (decide (nd < 8))).1) (zd4 (gtxt M) t (gplc M) Z (decide (nd < 8)))) h := x
    refine mj_istore_n (ls' := [(3, _), (2, _), (1, _), (0, _)]) dX11_parseDriver_53 (Nat.le_of_ble_eq_true rfl) rfl ?_
    refine mj_aload_n 3 dX11_parseDriver_54 rfl ?_
    refine mj_iconst (v := 1) dX11_parseDriver_55 rfl ?_
    refine mj_bipush (v := (99)) dX11_parseDriver_56 rfl ?_
    refine mS_cV1 x [_, _] dX11_parseDriver_58 cwX11_parseNumber lkX11_335 rfl rfl rfl (cs_parseNumberT (M := splc M (zpl (gtxt M) t (gplc M) Z (decide (nd < 8))).1) (Z := zd4 (gtxt M) t (gplc M) Z (decide (nd < 8))) x (T := gtxt M) (splc_gt _ _) (t := t) ht h6 (zd4_ok hp)) ⟨Nat.le_of_ble_eq_true rfl, Nat.le_of_ble_eq_true rfl, Nat.le_of_ble_eq_true rfl, Nat.le_of_ble_eq_true rfl, Nat.le_of_ble_eq_true rfl⟩ (fun h x => ?_)
    have x : Ms h0 m (tkS (splc M (zpl (gtxt M) t (gplc M) Z (decide (nd < 8))).1) (zd5 (gtxt M) t (gplc M) Z (decide (nd < 8)))) h := x
    refine mj_istore (ls' := [(4, _), (3, _), (2, _), (1, _), (0, _)]) dX11_parseDriver_61 (Nat.le_of_ble_eq_true rfl) rfl ?_
    refine mj_aload_n 4 dX11_parseDriver_63 rfl ?_
    refine mS_gec dX11_parseDriver_64 fgX11_322 x ?_
    refine mj_eq (tkS_gec _ _) ?_
    refine mj_if_ne 107 dX11_parseDriver_67 (by decide) (fun c_67 => ?_) (fun c_67 => ?_)
    · exact mj_vret dX11_parseDriver_107 rfl (Nat.le_of_ble_eq_true rfl) (Nat.le_of_ble_eq_true rfl) ⟨rfl, rfl, (by rw [pd_1, pd_2]; exact tk_n (pdN_n c_67) x)⟩
    · have hd8 : nd < 8 := Nat.lt_of_not_le fun z => absurd c_67 (by rw [show decide (nd < 8) = false from decide_eq_false (by omega)]; exact zd5_ec)
      refine mj_aload_n 4 dX11_parseDriver_70 rfl ?_
      refine mj_aload_n 4 dX11_parseDriver_71 rfl ?_
      refine mj_iload_n 3 dX11_parseDriver_72 rfl ?_
      refine mj_iload_n 2 dX11_parseDriver_73 rfl ?_
      refine mj_iload_n 1 dX11_parseDriver_74 rfl ?_
      refine mj_iload 0 dX11_parseDriver_75 rfl ?_
      refine mS_cV1 x [_, _, _, _] dX11_parseDriver_77 cwX11_appendDriver lkX11_83 rfl rfl rfl (cs_appendDriver x (d := nd) hd8 hnd) ⟨Nat.le_of_ble_eq_true rfl, Nat.le_of_ble_eq_true rfl, Nat.le_of_ble_eq_true rfl, Nat.le_of_ble_eq_true rfl, Nat.le_of_ble_eq_true rfl⟩ (fun h x => ?_)
      rw [a_drv_tk] at x
      refine mj_aload_n 4 dX11_parseDriver_80 rfl ?_
      refine mS_gplc dX11_parseDriver_81 fgX11_58 x ?_
      refine mj_iconst (v := 0) dX11_parseDriver_84 rfl ?_
      refine mS_lplc x ((show (0 : Int32).toInt = ((0 : Nat) : Int) from rfl)) (by first | assumption | omega | decide) dX11_parseDriver_85 ?_
      refine mj_eq (congrFun (((tkS_gp _ _).trans (a_drv_gp _ _ _ _ _ _)).trans (splc_gp _ _)) 0) ?_
      refine mj_aload_n 4 dX11_parseDriver_86 rfl ?_
      refine mS_gplc dX11_parseDriver_87 fgX11_58 x ?_
      refine mj_iconst (v := 1) dX11_parseDriver_90 rfl ?_
      refine mS_lplc x ((show (1 : Int32).toInt = ((1 : Nat) : Int) from rfl)) (by first | assumption | omega | decide) dX11_parseDriver_91 ?_
      refine mj_eq (congrFun (((tkS_gp _ _).trans (a_drv_gp _ _ _ _ _ _)).trans (splc_gp _ _)) 1) ?_
      refine mj_aload_n 4 dX11_parseDriver_92 rfl ?_
      refine mS_gplc dX11_parseDriver_93 fgX11_58 x ?_
      refine mj_iconst (v := 2) dX11_parseDriver_96 rfl ?_
      refine mS_lplc x ((show (2 : Int32).toInt = ((2 : Nat) : Int) from rfl)) (by first | assumption | omega | decide) dX11_parseDriver_97 ?_
      refine mj_eq (congrFun (((tkS_gp _ _).trans (a_drv_gp _ _ _ _ _ _)).trans (splc_gp _ _)) 2) ?_
      refine mj_aload_n 4 dX11_parseDriver_98 rfl ?_
      refine mS_gplc dX11_parseDriver_99 fgX11_58 x ?_
      refine mj_iconst (v := 3) dX11_parseDriver_102 rfl ?_
      refine mS_lplc x ((show (3 : Int32).toInt = ((3 : Nat) : Int) from rfl)) (by first | assumption | omega | decide) dX11_parseDriver_103 ?_
      refine mj_eq (congrFun (((tkS_gp _ _).trans (a_drv_gp _ _ _ _ _ _)).trans (splc_gp _ _)) 3) ?_
      refine mS_cV0 x [_, _, _, _, _] dX11_parseDriver_104 cwX11_placeTrip lkX11_98 rfl rfl rfl (cs_placeTrip x (d := nd) hd8) ⟨Nat.le_of_ble_eq_true rfl, Nat.le_of_ble_eq_true rfl, Nat.le_of_ble_eq_true rfl, Nat.le_of_ble_eq_true rfl, Nat.le_of_ble_eq_true rfl⟩ (fun h x => ?_)
      rw [tkS_gb, tkS_brd] at x
      exact mj_vret dX11_parseDriver_107 rfl (Nat.le_of_ble_eq_true rfl) (Nat.le_of_ble_eq_true rfl) ⟨rfl, rfl, (by rw [pd_1, pd_2]; exact tk_n (pdN_p c_67) (by unfold pd_M; exact x))⟩
  · have y1 : nd < 8 := Nat.lt_of_not_le fun z => c_9 (show nI 8 ≤ nI nd from nI_le z (by omega))
    refine mj_iconst (v := 1) dX11_parseDriver_12 rfl ?_
    refine mj_goto 17 dX11_parseDriver_13 (by decide) ?_
    refine mj_iconst (v := 3) dX11_parseDriver_17 rfl ?_
    refine mS_cV0 x [_, _] dX11_parseDriver_18 cwX11_require lkX11_328 rfl rfl rfl (cs_require x (b := decide (nd < 8)) (code := 3) (by first | (rw [decide_eq_true y1]; rfl) | (rw [decide_eq_false y1]; rfl))) ⟨Nat.le_of_ble_eq_true rfl, Nat.le_of_ble_eq_true rfl, Nat.le_of_ble_eq_true rfl, Nat.le_of_ble_eq_true rfl, Nat.le_of_ble_eq_true rfl⟩ (fun h x => ?_)
    refine mj_aload_n 0 dX11_parseDriver_21 rfl ?_
    refine mS_cV0 x [] dX11_parseDriver_22 cwX11_advance lkX11_332 rfl rfl rfl (cs_advance x ht h6 (by rw [z_req_pos]; exact hp)) ⟨Nat.le_of_ble_eq_true rfl, Nat.le_of_ble_eq_true rfl, Nat.le_of_ble_eq_true rfl, Nat.le_of_ble_eq_true rfl, Nat.le_of_ble_eq_true rfl⟩ (fun h x => ?_)
    refine mj_aload_n 0 dX11_parseDriver_25 rfl ?_
    refine mS_cV0 x [] dX11_parseDriver_26 cwX11_parsePlaces lkX11_338 rfl rfl rfl (cs_parsePlaces (Z := zd0 (gtxt M) t Z (decide (nd < 8))) x ht h6 (zd0_ok hp)) ⟨Nat.le_of_ble_eq_true rfl, Nat.le_of_ble_eq_true rfl, Nat.le_of_ble_eq_true rfl, Nat.le_of_ble_eq_true rfl, Nat.le_of_ble_eq_true rfl⟩ (fun h x => ?_)
    have x : Ms h0 m (tkS (splc M (zpl (gtxt M) t (gplc M) Z (decide (nd < 8))).1) (zpl (gtxt M) t (gplc M) Z (decide (nd < 8))).2) h := x
    refine mj_aload_n 0 dX11_parseDriver_29 rfl ?_
    refine mj_iconst (v := 1) dX11_parseDriver_30 rfl ?_
    refine mj_iconst (v := 4) dX11_parseDriver_31 rfl ?_
    refine mS_cV1 x [_, _] dX11_parseDriver_32 cwX11_parseNumber lkX11_335 rfl rfl rfl (cs_parseNumberT (M := splc M (zpl (gtxt M) t (gplc M) Z (decide (nd < 8))).1) (Z := (zpl (gtxt M) t (gplc M) Z (decide (nd < 8))).2) x (T := gtxt M) (splc_gt _ _) (t := t) ht h6 (zpl_ok hp)) ⟨Nat.le_of_ble_eq_true rfl, Nat.le_of_ble_eq_true rfl, Nat.le_of_ble_eq_true rfl, Nat.le_of_ble_eq_true rfl, Nat.le_of_ble_eq_true rfl⟩ (fun h x => ?_)
    have x : Ms h0 m (tkS (splc M (zpl (gtxt M) t (gplc M) Z (decide (nd < 8))).1) (zd2 (gtxt M) t (gplc M) Z (decide (nd < 8)))) h := x
    refine mj_istore_n (ls' := [(1, _), (0, _)]) dX11_parseDriver_35 (Nat.le_of_ble_eq_true rfl) rfl ?_
    refine mj_aload_n 1 dX11_parseDriver_36 rfl ?_
    refine mj_iconst (v := 0) dX11_parseDriver_37 rfl ?_
    refine mj_sipush (v := (1439)) dX11_parseDriver_38 rfl ?_
    refine mS_cV1 x [_, _] dX11_parseDriver_41 cwX11_parseNumber lkX11_335 rfl rfl rfl (cs_parseNumberT (M := splc M (zpl (gtxt M) t (gplc M) Z (decide (nd < 8))).1) (Z := zd2 (gtxt M) t (gplc M) Z (decide (nd < 8))) x (T := gtxt M) (splc_gt _ _) (t := t) ht h6 (zd2_ok hp)) ⟨Nat.le_of_ble_eq_true rfl, Nat.le_of_ble_eq_true rfl, Nat.le_of_ble_eq_true rfl, Nat.le_of_ble_eq_true rfl, Nat.le_of_ble_eq_true rfl⟩ (fun h x => ?_)
    have x : Ms h0 m (tkS (splc M (zpl (gtxt M) t (gplc M) Z (decide (nd < 8))).1) (zd3 (gtxt M) t (gplc M) Z (decide (nd < 8)))) h := x
    refine mj_istore_n (ls' := [(2, _), (1, _), (0, _)]) dX11_parseDriver_44 (Nat.le_of_ble_eq_true rfl) rfl ?_
    refine mj_aload_n 2 dX11_parseDriver_45 rfl ?_
    refine mj_iconst (v := 0) dX11_parseDriver_46 rfl ?_
    refine mj_sipush (v := (400)) dX11_parseDriver_47 rfl ?_
    refine mS_cV1 x [_, _] dX11_parseDriver_50 cwX11_parseNumber lkX11_335 rfl rfl rfl (cs_parseNumberT (M := splc M (zpl (gtxt M) t (gplc M) Z (decide (nd < 8))).1) (Z := zd3 (gtxt M) t (gplc M) Z (decide (nd < 8))) x (T := gtxt M) (splc_gt _ _) (t := t) ht h6 (zd3_ok hp)) ⟨Nat.le_of_ble_eq_true rfl, Nat.le_of_ble_eq_true rfl, Nat.le_of_ble_eq_true rfl, Nat.le_of_ble_eq_true rfl, Nat.le_of_ble_eq_true rfl⟩ (fun h x => ?_)
    have x : Ms h0 m (tkS (splc M (zpl (gtxt M) t (gplc M) Z (decide (nd < 8))).1) (zd4 (gtxt M) t (gplc M) Z (decide (nd < 8)))) h := x
    refine mj_istore_n (ls' := [(3, _), (2, _), (1, _), (0, _)]) dX11_parseDriver_53 (Nat.le_of_ble_eq_true rfl) rfl ?_
    refine mj_aload_n 3 dX11_parseDriver_54 rfl ?_
    refine mj_iconst (v := 1) dX11_parseDriver_55 rfl ?_
    refine mj_bipush (v := (99)) dX11_parseDriver_56 rfl ?_
    refine mS_cV1 x [_, _] dX11_parseDriver_58 cwX11_parseNumber lkX11_335 rfl rfl rfl (cs_parseNumberT (M := splc M (zpl (gtxt M) t (gplc M) Z (decide (nd < 8))).1) (Z := zd4 (gtxt M) t (gplc M) Z (decide (nd < 8))) x (T := gtxt M) (splc_gt _ _) (t := t) ht h6 (zd4_ok hp)) ⟨Nat.le_of_ble_eq_true rfl, Nat.le_of_ble_eq_true rfl, Nat.le_of_ble_eq_true rfl, Nat.le_of_ble_eq_true rfl, Nat.le_of_ble_eq_true rfl⟩ (fun h x => ?_)
    have x : Ms h0 m (tkS (splc M (zpl (gtxt M) t (gplc M) Z (decide (nd < 8))).1) (zd5 (gtxt M) t (gplc M) Z (decide (nd < 8)))) h := x
    refine mj_istore (ls' := [(4, _), (3, _), (2, _), (1, _), (0, _)]) dX11_parseDriver_61 (Nat.le_of_ble_eq_true rfl) rfl ?_
    refine mj_aload_n 4 dX11_parseDriver_63 rfl ?_
    refine mS_gec dX11_parseDriver_64 fgX11_322 x ?_
    refine mj_eq (tkS_gec _ _) ?_
    refine mj_if_ne 107 dX11_parseDriver_67 (by decide) (fun c_67 => ?_) (fun c_67 => ?_)
    · exact mj_vret dX11_parseDriver_107 rfl (Nat.le_of_ble_eq_true rfl) (Nat.le_of_ble_eq_true rfl) ⟨rfl, rfl, (by rw [pd_1, pd_2]; exact tk_n (pdN_n c_67) x)⟩
    · have hd8 : nd < 8 := Nat.lt_of_not_le fun z => absurd c_67 (by rw [show decide (nd < 8) = false from decide_eq_false (by omega)]; exact zd5_ec)
      refine mj_aload_n 4 dX11_parseDriver_70 rfl ?_
      refine mj_aload_n 4 dX11_parseDriver_71 rfl ?_
      refine mj_iload_n 3 dX11_parseDriver_72 rfl ?_
      refine mj_iload_n 2 dX11_parseDriver_73 rfl ?_
      refine mj_iload_n 1 dX11_parseDriver_74 rfl ?_
      refine mj_iload 0 dX11_parseDriver_75 rfl ?_
      refine mS_cV1 x [_, _, _, _] dX11_parseDriver_77 cwX11_appendDriver lkX11_83 rfl rfl rfl (cs_appendDriver x (d := nd) hd8 hnd) ⟨Nat.le_of_ble_eq_true rfl, Nat.le_of_ble_eq_true rfl, Nat.le_of_ble_eq_true rfl, Nat.le_of_ble_eq_true rfl, Nat.le_of_ble_eq_true rfl⟩ (fun h x => ?_)
      rw [a_drv_tk] at x
      refine mj_aload_n 4 dX11_parseDriver_80 rfl ?_
      refine mS_gplc dX11_parseDriver_81 fgX11_58 x ?_
      refine mj_iconst (v := 0) dX11_parseDriver_84 rfl ?_
      refine mS_lplc x ((show (0 : Int32).toInt = ((0 : Nat) : Int) from rfl)) (by first | assumption | omega | decide) dX11_parseDriver_85 ?_
      refine mj_eq (congrFun (((tkS_gp _ _).trans (a_drv_gp _ _ _ _ _ _)).trans (splc_gp _ _)) 0) ?_
      refine mj_aload_n 4 dX11_parseDriver_86 rfl ?_
      refine mS_gplc dX11_parseDriver_87 fgX11_58 x ?_
      refine mj_iconst (v := 1) dX11_parseDriver_90 rfl ?_
      refine mS_lplc x ((show (1 : Int32).toInt = ((1 : Nat) : Int) from rfl)) (by first | assumption | omega | decide) dX11_parseDriver_91 ?_
      refine mj_eq (congrFun (((tkS_gp _ _).trans (a_drv_gp _ _ _ _ _ _)).trans (splc_gp _ _)) 1) ?_
      refine mj_aload_n 4 dX11_parseDriver_92 rfl ?_
      refine mS_gplc dX11_parseDriver_93 fgX11_58 x ?_
      refine mj_iconst (v := 2) dX11_parseDriver_96 rfl ?_
      refine mS_lplc x ((show (2 : Int32).toInt = ((2 : Nat) : Int) from rfl)) (by first | assumption | omega | decide) dX11_parseDriver_97 ?_
      refine mj_eq (congrFun (((tkS_gp _ _).trans (a_drv_gp _ _ _ _ _ _)).trans (splc_gp _ _)) 2) ?_
      refine mj_aload_n 4 dX11_parseDriver_98 rfl ?_
      refine mS_gplc dX11_parseDriver_99 fgX11_58 x ?_
      refine mj_iconst (v := 3) dX11_parseDriver_102 rfl ?_
      refine mS_lplc x ((show (3 : Int32).toInt = ((3 : Nat) : Int) from rfl)) (by first | assumption | omega | decide) dX11_parseDriver_103 ?_
      refine mj_eq (congrFun (((tkS_gp _ _).trans (a_drv_gp _ _ _ _ _ _)).trans (splc_gp _ _)) 3) ?_
      refine mS_cV0 x [_, _, _, _, _] dX11_parseDriver_104 cwX11_placeTrip lkX11_98 rfl rfl rfl (cs_placeTrip x (d := nd) hd8) ⟨Nat.le_of_ble_eq_true rfl, Nat.le_of_ble_eq_true rfl, Nat.le_of_ble_eq_true rfl, Nat.le_of_ble_eq_true rfl, Nat.le_of_ble_eq_true rfl⟩ (fun h x => ?_)
      rw [tkS_gb, tkS_brd] at x
      exact mj_vret dX11_parseDriver_107 rfl (Nat.le_of_ble_eq_true rfl) (Nat.le_of_ble_eq_true rfl) ⟨rfl, rfl, (by rw [pd_1, pd_2]; exact tk_n (pdN_p c_67) (by unfold pd_M; exact x))⟩
def zr2 (T : Nat → Int32) (m : Nat) (P : Nat → Int32) (Z : ZS) (b : Bool) : ZS := z_pn T m (zpl T m P Z b).2 0 1439
def zr3 (T : Nat → Int32) (m : Nat) (P : Nat → Int32) (Z : ZS) (b : Bool) : ZS := z_pn T m (zr2 T m P Z b) 0 9999
theorem zr2_ok {T : Nat → Int32} {m : Nat} {P : Nat → Int32} {Z : ZS} {b : Bool} (h : zpos Z ≤ m) : zpos (zr2 T m P Z b) ≤ m := z_pn_ok (zpl_ok h)
theorem zr3_ok {T : Nat → Int32} {m : Nat} {P : Nat → Int32} {Z : ZS} {b : Bool} (h : zpos Z ≤ m) : zpos (zr3 T m P Z b) ≤ m := z_pn_ok (zr2_ok h)
theorem zr3_ec {T : Nat → Int32} {m : Nat} {P : Nat → Int32} {Z : ZS} : ¬ zec (zr3 T m P Z false) = 0 := by
  have h := zpl_ec (T := T) (m := m) (P := P) (Z := Z)
  unfold zr3 zr2
  rw [z_pn_ec (Z := (zpl T m P Z false).2) h, z_pn_ec h]
  exact h
def pr_M (M : MS) (P : Nat → Int32) (r : Nat) (rd dl : Int32) : MS := a_rdr (splc M P) r (P 0) (P 1) (P 2) (P 3) rd dl
def prN (M : MS) (t : Nat) (Z : ZS) (nr : Nat) : MS :=
  if zec (zr3 (gtxt M) t (gplc M) Z (decide (nr < 20))) = 0 then
    pr_M M (zpl (gtxt M) t (gplc M) Z (decide (nr < 20))).1 nr (znum (zpl (gtxt M) t (gplc M) Z (decide (nr < 20))).2) (znum (zr2 (gtxt M) t (gplc M) Z (decide (nr < 20))))
  else splc M (zpl (gtxt M) t (gplc M) Z (decide (nr < 20))).1
def pr (M : MS) (t : Nat) (Z : ZS) (nr : Nat) : MS × ZS := (prN M t Z nr, zr3 (gtxt M) t (gplc M) Z (decide (nr < 20)))
theorem prN_n {M : MS} {t : Nat} {Z : ZS} {nr : Nat} (h : ¬ zec (zr3 (gtxt M) t (gplc M) Z (decide (nr < 20))) = 0) : prN M t Z nr = splc M (zpl (gtxt M) t (gplc M) Z (decide (nr < 20))).1 := by
  unfold prN
  exact if_neg h
theorem prN_p {M : MS} {t : Nat} {Z : ZS} {nr : Nat} (h : zec (zr3 (gtxt M) t (gplc M) Z (decide (nr < 20))) = 0) : prN M t Z nr = pr_M M (zpl (gtxt M) t (gplc M) Z (decide (nr < 20))).1 nr (znum (zpl (gtxt M) t (gplc M) Z (decide (nr < 20))).2) (znum (zr2 (gtxt M) t (gplc M) Z (decide (nr < 20)))) := by
  unfold prN
  exact if_pos h
theorem pr_1 (M : MS) (t : Nat) (Z : ZS) (nr : Nat) : (pr M t Z nr).1 = prN M t Z nr := by
  unfold pr
  dsimp only
theorem pr_2 (M : MS) (t : Nat) (Z : ZS) (nr : Nat) : (pr M t Z nr).2 = zr3 (gtxt M) t (gplc M) Z (decide (nr < 20)) := by
  unfold pr
  dsimp only
set_option maxRecDepth 100000 in
set_option maxHeartbeats 4000000 in
theorem cs_parseRider {K : KX} {n : Nat} {h : MH} {h0 : MH} {m : Nat} {M : MS} {Z : ZS} (x : Ms h0 m (tkS M Z) h) {t : Nat} (ht : gtl M = nI t) (h6 : t ≤ 600) (hp : zpos Z ≤ t) {nr : Nat} (hnr : gbrd M 2 = nI nr) (h20 : nr ≤ 20) : Con K mX11_parseRider [.ref m] 0 0 n h (RetP (none) n (Ms h0 m (tkS (pr M t Z nr).1 (pr M t Z nr).2))) := by
  refine Con.of (by decide +kernel) (Nat.le_of_ble_eq_true rfl) ?_
  refine mj_aload_n 0 dX11_parseRider_0 rfl ?_
  refine mj_aload_n 0 dX11_parseRider_1 rfl ?_
  refine mS_gbrd dX11_parseRider_2 fgX11_7 x ?_
  refine mj_iconst (v := 2) dX11_parseRider_5 rfl ?_
  refine mS_lbrd x ((show (2 : Int32).toInt = ((2 : Nat) : Int) from rfl)) (by first | assumption | omega | decide) dX11_parseRider_6 ?_
  refine mj_eq (hnr) ?_
  refine mj_bipush (v := (20)) dX11_parseRider_7 rfl ?_
  refine mj_icmp_ge 16 dX11_parseRider_9 (by decide) (fun c_9 => ?_) (fun c_9 => ?_)
  · have y1 : ¬ nr < 20 := fun z => nI_ge z (by omega) (show nI 20 ≤ nI nr from c_9)
    refine mj_iconst (v := 0) dX11_parseRider_16 rfl ?_
    refine mj_iconst (v := 3) dX11_parseRider_17 rfl ?_
    refine mS_cV0 x [_, _] dX11_parseRider_18 cwX11_require lkX11_328 rfl rfl rfl (cs_require x (b := decide (nr < 20)) (code := 3) (by first | (rw [decide_eq_true y1]; rfl) | (rw [decide_eq_false y1]; rfl))) ⟨Nat.le_of_ble_eq_true rfl, Nat.le_of_ble_eq_true rfl, Nat.le_of_ble_eq_true rfl, Nat.le_of_ble_eq_true rfl, Nat.le_of_ble_eq_true rfl⟩ (fun h x => ?_)
    refine mj_aload_n 0 dX11_parseRider_21 rfl ?_
    refine mS_cV0 x [] dX11_parseRider_22 cwX11_advance lkX11_332 rfl rfl rfl (cs_advance x ht h6 (by rw [z_req_pos]; exact hp)) ⟨Nat.le_of_ble_eq_true rfl, Nat.le_of_ble_eq_true rfl, Nat.le_of_ble_eq_true rfl, Nat.le_of_ble_eq_true rfl, Nat.le_of_ble_eq_true rfl⟩ (fun h x => ?_)
    refine mj_aload_n 0 dX11_parseRider_25 rfl ?_
    refine mS_cV0 x [] dX11_parseRider_26 cwX11_parsePlaces lkX11_338 rfl rfl rfl (cs_parsePlaces (Z := zd0 (gtxt M) t Z (decide (nr < 20))) x ht h6 (zd0_ok hp)) ⟨Nat.le_of_ble_eq_true rfl, Nat.le_of_ble_eq_true rfl, Nat.le_of_ble_eq_true rfl, Nat.le_of_ble_eq_true rfl, Nat.le_of_ble_eq_true rfl⟩ (fun h x => ?_)
    have x : Ms h0 m (tkS (splc M (zpl (gtxt M) t (gplc M) Z (decide (nr < 20))).1) (zpl (gtxt M) t (gplc M) Z (decide (nr < 20))).2) h := x
    refine mj_aload_n 0 dX11_parseRider_29 rfl ?_
    refine mj_iconst (v := 0) dX11_parseRider_30 rfl ?_
    refine mj_sipush (v := (1439)) dX11_parseRider_31 rfl ?_
    refine mS_cV1 x [_, _] dX11_parseRider_34 cwX11_parseNumber lkX11_335 rfl rfl rfl (cs_parseNumberT (M := splc M (zpl (gtxt M) t (gplc M) Z (decide (nr < 20))).1) (Z := (zpl (gtxt M) t (gplc M) Z (decide (nr < 20))).2) x (T := gtxt M) (splc_gt _ _) (t := t) ht h6 (zpl_ok hp)) ⟨Nat.le_of_ble_eq_true rfl, Nat.le_of_ble_eq_true rfl, Nat.le_of_ble_eq_true rfl, Nat.le_of_ble_eq_true rfl, Nat.le_of_ble_eq_true rfl⟩ (fun h x => ?_)
    have x : Ms h0 m (tkS (splc M (zpl (gtxt M) t (gplc M) Z (decide (nr < 20))).1) (zr2 (gtxt M) t (gplc M) Z (decide (nr < 20)))) h := x
    refine mj_istore_n (ls' := [(1, _), (0, _)]) dX11_parseRider_37 (Nat.le_of_ble_eq_true rfl) rfl ?_
    refine mj_aload_n 1 dX11_parseRider_38 rfl ?_
    refine mj_iconst (v := 0) dX11_parseRider_39 rfl ?_
    refine mj_sipush (v := (9999)) dX11_parseRider_40 rfl ?_
    refine mS_cV1 x [_, _] dX11_parseRider_43 cwX11_parseNumber lkX11_335 rfl rfl rfl (cs_parseNumberT (M := splc M (zpl (gtxt M) t (gplc M) Z (decide (nr < 20))).1) (Z := zr2 (gtxt M) t (gplc M) Z (decide (nr < 20))) x (T := gtxt M) (splc_gt _ _) (t := t) ht h6 (zr2_ok hp)) ⟨Nat.le_of_ble_eq_true rfl, Nat.le_of_ble_eq_true rfl, Nat.le_of_ble_eq_true rfl, Nat.le_of_ble_eq_true rfl, Nat.le_of_ble_eq_true rfl⟩ (fun h x => ?_)
    have x : Ms h0 m (tkS (splc M (zpl (gtxt M) t (gplc M) Z (decide (nr < 20))).1) (zr3 (gtxt M) t (gplc M) Z (decide (nr < 20)))) h := x
    refine mj_istore_n (ls' := [(2, _), (1, _), (0, _)]) dX11_parseRider_46 (Nat.le_of_ble_eq_true rfl) rfl ?_
    refine mj_aload_n 2 dX11_parseRider_47 rfl ?_
    refine mS_gec dX11_parseRider_48 fgX11_322 x ?_
    refine mj_eq (tkS_gec _ _) ?_
    refine mj_if_ne 85 dX11_parseRider_51 (by decide) (fun c_51 => ?_) (fun c_51 => ?_)
    · exact mj_vret dX11_parseRider_85 rfl (Nat.le_of_ble_eq_true rfl) (Nat.le_of_ble_eq_true rfl) ⟨rfl, rfl, (by rw [pr_1, pr_2]; exact tk_n (prN_n c_51) x)⟩
    · have hr20 : nr < 20 := Nat.lt_of_not_le fun z => absurd c_51 (by rw [show decide (nr < 20) = false from decide_eq_false (by omega)]; exact zr3_ec)
      refine mj_aload_n 2 dX11_parseRider_54 rfl ?_
      refine mj_aload_n 2 dX11_parseRider_55 rfl ?_
      refine mS_gplc dX11_parseRider_56 fgX11_58 x ?_
      refine mj_iconst (v := 0) dX11_parseRider_59 rfl ?_
      refine mS_lplc x ((show (0 : Int32).toInt = ((0 : Nat) : Int) from rfl)) (by first | assumption | omega | decide) dX11_parseRider_60 ?_
      refine mj_eq (congrFun ((tkS_gp _ _).trans (splc_gp _ _)) 0) ?_
      refine mj_aload_n 2 dX11_parseRider_61 rfl ?_
      refine mS_gplc dX11_parseRider_62 fgX11_58 x ?_
      refine mj_iconst (v := 1) dX11_parseRider_65 rfl ?_
      refine mS_lplc x ((show (1 : Int32).toInt = ((1 : Nat) : Int) from rfl)) (by first | assumption | omega | decide) dX11_parseRider_66 ?_
      refine mj_eq (congrFun ((tkS_gp _ _).trans (splc_gp _ _)) 1) ?_
      refine mj_aload_n 2 dX11_parseRider_67 rfl ?_
      refine mS_gplc dX11_parseRider_68 fgX11_58 x ?_
      refine mj_iconst (v := 2) dX11_parseRider_71 rfl ?_
      refine mS_lplc x ((show (2 : Int32).toInt = ((2 : Nat) : Int) from rfl)) (by first | assumption | omega | decide) dX11_parseRider_72 ?_
      refine mj_eq (congrFun ((tkS_gp _ _).trans (splc_gp _ _)) 2) ?_
      refine mj_aload_n 2 dX11_parseRider_73 rfl ?_
      refine mS_gplc dX11_parseRider_74 fgX11_58 x ?_
      refine mj_iconst (v := 3) dX11_parseRider_77 rfl ?_
      refine mS_lplc x ((show (3 : Int32).toInt = ((3 : Nat) : Int) from rfl)) (by first | assumption | omega | decide) dX11_parseRider_78 ?_
      refine mj_eq (congrFun ((tkS_gp _ _).trans (splc_gp _ _)) 3) ?_
      refine mj_iload_n 1 dX11_parseRider_79 rfl ?_
      refine mj_iload_n 0 dX11_parseRider_80 rfl ?_
      refine mS_cV1 x [_, _, _, _, _, _] dX11_parseRider_81 cwX11_appendRider lkX11_108 rfl rfl rfl (cs_appendRider x (r := nr) hr20 hnr) ⟨Nat.le_of_ble_eq_true rfl, Nat.le_of_ble_eq_true rfl, Nat.le_of_ble_eq_true rfl, Nat.le_of_ble_eq_true rfl, Nat.le_of_ble_eq_true rfl⟩ (fun h x => ?_)
      rw [a_rdr_tk] at x
      refine mj_istore_n (ls' := [(3, _), (2, _), (1, _), (0, _)]) dX11_parseRider_84 (Nat.le_of_ble_eq_true rfl) rfl ?_
      exact mj_vret dX11_parseRider_85 rfl (Nat.le_of_ble_eq_true rfl) (Nat.le_of_ble_eq_true rfl) ⟨rfl, rfl, (by rw [pr_1, pr_2]; exact tk_n (prN_p c_51) (by unfold pr_M; exact x))⟩
  · have y1 : nr < 20 := Nat.lt_of_not_le fun z => c_9 (show nI 20 ≤ nI nr from nI_le z (by omega))
    refine mj_iconst (v := 1) dX11_parseRider_12 rfl ?_
    refine mj_goto 17 dX11_parseRider_13 (by decide) ?_
    refine mj_iconst (v := 3) dX11_parseRider_17 rfl ?_
    refine mS_cV0 x [_, _] dX11_parseRider_18 cwX11_require lkX11_328 rfl rfl rfl (cs_require x (b := decide (nr < 20)) (code := 3) (by first | (rw [decide_eq_true y1]; rfl) | (rw [decide_eq_false y1]; rfl))) ⟨Nat.le_of_ble_eq_true rfl, Nat.le_of_ble_eq_true rfl, Nat.le_of_ble_eq_true rfl, Nat.le_of_ble_eq_true rfl, Nat.le_of_ble_eq_true rfl⟩ (fun h x => ?_)
    refine mj_aload_n 0 dX11_parseRider_21 rfl ?_
    refine mS_cV0 x [] dX11_parseRider_22 cwX11_advance lkX11_332 rfl rfl rfl (cs_advance x ht h6 (by rw [z_req_pos]; exact hp)) ⟨Nat.le_of_ble_eq_true rfl, Nat.le_of_ble_eq_true rfl, Nat.le_of_ble_eq_true rfl, Nat.le_of_ble_eq_true rfl, Nat.le_of_ble_eq_true rfl⟩ (fun h x => ?_)
    refine mj_aload_n 0 dX11_parseRider_25 rfl ?_
    refine mS_cV0 x [] dX11_parseRider_26 cwX11_parsePlaces lkX11_338 rfl rfl rfl (cs_parsePlaces (Z := zd0 (gtxt M) t Z (decide (nr < 20))) x ht h6 (zd0_ok hp)) ⟨Nat.le_of_ble_eq_true rfl, Nat.le_of_ble_eq_true rfl, Nat.le_of_ble_eq_true rfl, Nat.le_of_ble_eq_true rfl, Nat.le_of_ble_eq_true rfl⟩ (fun h x => ?_)
    have x : Ms h0 m (tkS (splc M (zpl (gtxt M) t (gplc M) Z (decide (nr < 20))).1) (zpl (gtxt M) t (gplc M) Z (decide (nr < 20))).2) h := x
    refine mj_aload_n 0 dX11_parseRider_29 rfl ?_
    refine mj_iconst (v := 0) dX11_parseRider_30 rfl ?_
    refine mj_sipush (v := (1439)) dX11_parseRider_31 rfl ?_
    refine mS_cV1 x [_, _] dX11_parseRider_34 cwX11_parseNumber lkX11_335 rfl rfl rfl (cs_parseNumberT (M := splc M (zpl (gtxt M) t (gplc M) Z (decide (nr < 20))).1) (Z := (zpl (gtxt M) t (gplc M) Z (decide (nr < 20))).2) x (T := gtxt M) (splc_gt _ _) (t := t) ht h6 (zpl_ok hp)) ⟨Nat.le_of_ble_eq_true rfl, Nat.le_of_ble_eq_true rfl, Nat.le_of_ble_eq_true rfl, Nat.le_of_ble_eq_true rfl, Nat.le_of_ble_eq_true rfl⟩ (fun h x => ?_)
    have x : Ms h0 m (tkS (splc M (zpl (gtxt M) t (gplc M) Z (decide (nr < 20))).1) (zr2 (gtxt M) t (gplc M) Z (decide (nr < 20)))) h := x
    refine mj_istore_n (ls' := [(1, _), (0, _)]) dX11_parseRider_37 (Nat.le_of_ble_eq_true rfl) rfl ?_
    refine mj_aload_n 1 dX11_parseRider_38 rfl ?_
    refine mj_iconst (v := 0) dX11_parseRider_39 rfl ?_
    refine mj_sipush (v := (9999)) dX11_parseRider_40 rfl ?_
    refine mS_cV1 x [_, _] dX11_parseRider_43 cwX11_parseNumber lkX11_335 rfl rfl rfl (cs_parseNumberT (M := splc M (zpl (gtxt M) t (gplc M) Z (decide (nr < 20))).1) (Z := zr2 (gtxt M) t (gplc M) Z (decide (nr < 20))) x (T := gtxt M) (splc_gt _ _) (t := t) ht h6 (zr2_ok hp)) ⟨Nat.le_of_ble_eq_true rfl, Nat.le_of_ble_eq_true rfl, Nat.le_of_ble_eq_true rfl, Nat.le_of_ble_eq_true rfl, Nat.le_of_ble_eq_true rfl⟩ (fun h x => ?_)
    have x : Ms h0 m (tkS (splc M (zpl (gtxt M) t (gplc M) Z (decide (nr < 20))).1) (zr3 (gtxt M) t (gplc M) Z (decide (nr < 20)))) h := x
    refine mj_istore_n (ls' := [(2, _), (1, _), (0, _)]) dX11_parseRider_46 (Nat.le_of_ble_eq_true rfl) rfl ?_
    refine mj_aload_n 2 dX11_parseRider_47 rfl ?_
    refine mS_gec dX11_parseRider_48 fgX11_322 x ?_
    refine mj_eq (tkS_gec _ _) ?_
    refine mj_if_ne 85 dX11_parseRider_51 (by decide) (fun c_51 => ?_) (fun c_51 => ?_)
    · exact mj_vret dX11_parseRider_85 rfl (Nat.le_of_ble_eq_true rfl) (Nat.le_of_ble_eq_true rfl) ⟨rfl, rfl, (by rw [pr_1, pr_2]; exact tk_n (prN_n c_51) x)⟩
    · have hr20 : nr < 20 := Nat.lt_of_not_le fun z => absurd c_51 (by rw [show decide (nr < 20) = false from decide_eq_false (by omega)]; exact zr3_ec)
      refine mj_aload_n 2 dX11_parseRider_54 rfl ?_
      refine mj_aload_n 2 dX11_parseRider_55 rfl ?_
      refine mS_gplc dX11_parseRider_56 fgX11_58 x ?_
      refine mj_iconst (v := 0) dX11_parseRider_59 rfl ?_
      refine mS_lplc x ((show (0 : Int32).toInt = ((0 : Nat) : Int) from rfl)) (by first | assumption | omega | decide) dX11_parseRider_60 ?_
      refine mj_eq (congrFun ((tkS_gp _ _).trans (splc_gp _ _)) 0) ?_
      refine mj_aload_n 2 dX11_parseRider_61 rfl ?_
      refine mS_gplc dX11_parseRider_62 fgX11_58 x ?_
      refine mj_iconst (v := 1) dX11_parseRider_65 rfl ?_
      refine mS_lplc x ((show (1 : Int32).toInt = ((1 : Nat) : Int) from rfl)) (by first | assumption | omega | decide) dX11_parseRider_66 ?_
      refine mj_eq (congrFun ((tkS_gp _ _).trans (splc_gp _ _)) 1) ?_
      refine mj_aload_n 2 dX11_parseRider_67 rfl ?_
      refine mS_gplc dX11_parseRider_68 fgX11_58 x ?_
      refine mj_iconst (v := 2) dX11_parseRider_71 rfl ?_
      refine mS_lplc x ((show (2 : Int32).toInt = ((2 : Nat) : Int) from rfl)) (by first | assumption | omega | decide) dX11_parseRider_72 ?_
      refine mj_eq (congrFun ((tkS_gp _ _).trans (splc_gp _ _)) 2) ?_
      refine mj_aload_n 2 dX11_parseRider_73 rfl ?_
      refine mS_gplc dX11_parseRider_74 fgX11_58 x ?_
      refine mj_iconst (v := 3) dX11_parseRider_77 rfl ?_
      refine mS_lplc x ((show (3 : Int32).toInt = ((3 : Nat) : Int) from rfl)) (by first | assumption | omega | decide) dX11_parseRider_78 ?_
      refine mj_eq (congrFun ((tkS_gp _ _).trans (splc_gp _ _)) 3) ?_
      refine mj_iload_n 1 dX11_parseRider_79 rfl ?_
      refine mj_iload_n 0 dX11_parseRider_80 rfl ?_
      refine mS_cV1 x [_, _, _, _, _, _] dX11_parseRider_81 cwX11_appendRider lkX11_108 rfl rfl rfl (cs_appendRider x (r := nr) hr20 hnr) ⟨Nat.le_of_ble_eq_true rfl, Nat.le_of_ble_eq_true rfl, Nat.le_of_ble_eq_true rfl, Nat.le_of_ble_eq_true rfl, Nat.le_of_ble_eq_true rfl⟩ (fun h x => ?_)
      rw [a_rdr_tk] at x
      refine mj_istore_n (ls' := [(3, _), (2, _), (1, _), (0, _)]) dX11_parseRider_84 (Nat.le_of_ble_eq_true rfl) rfl ?_
      exact mj_vret dX11_parseRider_85 rfl (Nat.le_of_ble_eq_true rfl) (Nat.le_of_ble_eq_true rfl) ⟨rfl, rfl, (by rw [pr_1, pr_2]; exact tk_n (prN_p c_51) (by unfold pr_M; exact x))⟩
def zp1 (T : Nat → Int32) (m : Nat) (Z : ZS) : ZS := z_adv T m (z_req Z (z_isw Z 2) 1)
def zp2 (T : Nat → Int32) (m : Nat) (Z : ZS) : ZS := z_pn T m (zp1 T m Z) 0 9999
theorem zp1_ok {T : Nat → Int32} {m : Nat} {Z : ZS} (h : zpos Z ≤ m) : zpos (zp1 T m Z) ≤ m := z_adv_ok (by rw [z_req_pos]; exact h)
theorem zp2_ok {T : Nat → Int32} {m : Nat} {Z : ZS} (h : zpos Z ≤ m) : zpos (zp2 T m Z) ≤ m := z_pn_ok (zp1_ok h)
def pp_ (M : MS) (t : Nat) (Z : ZS) : MS × ZS := (sbrd M (upd (gbrd M) 0 (if zec (zp2 (gtxt M) t Z) = 0 then znum (zp1 (gtxt M) t Z) else gbrd M 0)), zp2 (gtxt M) t Z)
def ps1 (M : MS) (t : Nat) (Z : ZS) (nd nr : Nat) : MS × ZS := if z_isw Z 0 then pd M t Z nd else if z_isw Z 1 then pr M t Z nr else pp_ M t Z
def z_sc (T : Nat → Int32) (m : Nat) (Z : ZS) : ZS := z_adv T m (z_req Z (decide (ztok Z = 4)) 1)
def ps (M : MS) (t : Nat) (Z : ZS) (nd nr : Nat) : MS × ZS := ((ps1 M t Z nd nr).1, z_sc (gtxt M) t (ps1 M t Z nd nr).2)
theorem pd_ok {M : MS} {t : Nat} {Z : ZS} {nd : Nat} (h : zpos Z ≤ t) : zpos (pd M t Z nd).2 ≤ t := by
  rw [pd_2]
  exact zd5_ok h
theorem pr_ok {M : MS} {t : Nat} {Z : ZS} {nr : Nat} (h : zpos Z ≤ t) : zpos (pr M t Z nr).2 ≤ t := by
  rw [pr_2]
  exact zr3_ok h
theorem ps1_c (M : MS) (t : Nat) (Z : ZS) (nd nr : Nat) : ps1 M t Z nd nr = pd M t Z nd ∨ ps1 M t Z nd nr = pr M t Z nr ∨ ps1 M t Z nd nr = pp_ M t Z := by
  unfold ps1
  by_cases c : z_isw Z 0 = true
  · rw [if_pos c]; exact Or.inl rfl
  · rw [if_neg c]
    by_cases c2 : z_isw Z 1 = true
    · rw [if_pos c2]; exact Or.inr (Or.inl rfl)
    · rw [if_neg c2]; exact Or.inr (Or.inr rfl)
theorem pp_2 (M : MS) (t : Nat) (Z : ZS) : (pp_ M t Z).2 = zp2 (gtxt M) t Z := by
  unfold pp_
  dsimp only
theorem pp_1 (M : MS) (t : Nat) (Z : ZS) : (pp_ M t Z).1 = sbrd M (upd (gbrd M) 0 (if zec (zp2 (gtxt M) t Z) = 0 then znum (zp1 (gtxt M) t Z) else gbrd M 0)) := by
  unfold pp_
  dsimp only
theorem ps1_ok {M : MS} {t : Nat} {Z : ZS} {nd nr : Nat} (h : zpos Z ≤ t) : zpos (ps1 M t Z nd nr).2 ≤ t := by
  rcases ps1_c M t Z nd nr with e | e | e
  · rw [e]; exact pd_ok h
  · rw [e]; exact pr_ok h
  · rw [e, pp_2]; exact zp2_ok h
theorem ite_f {α : Type} {f : MS → α} {v : α} {c : Prop} [Decidable c] {a b : MS} (ha : f a = v) (hb : f b = v) : f (if c then a else b) = v := by split <;> assumption
theorem pd_M_tx (M : MS) (P : Nat → Int32) (d : Nat) (se de li ra : Int32) : gtxt (pd_M M P d se de li ra) = gtxt M ∧ gtl (pd_M M P d se de li ra) = gtl M := ⟨rfl, rfl⟩
theorem pr_M_tx (M : MS) (P : Nat → Int32) (d : Nat) (se de : Int32) : gtxt (pr_M M P d se de) = gtxt M ∧ gtl (pr_M M P d se de) = gtl M := ⟨rfl, rfl⟩
theorem splc_tx (M : MS) (P : Nat → Int32) : gtxt (splc M P) = gtxt M ∧ gtl (splc M P) = gtl M := ⟨rfl, rfl⟩
theorem pd_tx {M : MS} {t : Nat} {Z : ZS} {nd : Nat} : gtxt (pd M t Z nd).1 = gtxt M ∧ gtl (pd M t Z nd).1 = gtl M := by
  rw [pd_1]
  unfold pdN
  exact ⟨ite_f (f := fun N => gtxt N) (pd_M_tx _ _ _ _ _ _ _).1 (splc_tx _ _).1, ite_f (f := fun N => gtl N) (pd_M_tx _ _ _ _ _ _ _).2 (splc_tx _ _).2⟩
theorem pr_tx {M : MS} {t : Nat} {Z : ZS} {nd : Nat} : gtxt (pr M t Z nd).1 = gtxt M ∧ gtl (pr M t Z nd).1 = gtl M := by
  rw [pr_1]
  unfold prN
  exact ⟨ite_f (f := fun N => gtxt N) (pr_M_tx _ _ _ _ _).1 (splc_tx _ _).1, ite_f (f := fun N => gtl N) (pr_M_tx _ _ _ _ _).2 (splc_tx _ _).2⟩
theorem sbrd_tx (M : MS) (g : Nat → Int32) : gtxt (sbrd M g) = gtxt M ∧ gtl (sbrd M g) = gtl M := ⟨rfl, rfl⟩
theorem ps1_tx {M : MS} {t : Nat} {Z : ZS} {nd nr : Nat} : gtxt (ps1 M t Z nd nr).1 = gtxt M ∧ gtl (ps1 M t Z nd nr).1 = gtl M := by
  rcases ps1_c M t Z nd nr with e | e | e
  · rw [e]; exact pd_tx
  · rw [e]; exact pr_tx
  · rw [e, pp_1]; exact sbrd_tx _ _
set_option maxRecDepth 100000 in
set_option maxHeartbeats 4000000 in
theorem cs_parseStatement {K : KX} {n : Nat} {h : MH} {h0 : MH} {m : Nat} {M : MS} {Z : ZS} (x : Ms h0 m (tkS M Z) h) {t : Nat} (ht : gtl M = nI t) (h6 : t ≤ 600) (hp : zpos Z ≤ t) (hl : zlet Z ≤ t) {nd nr : Nat} (hnd : gbrd M 1 = nI nd) (h8 : nd ≤ 8) (hnr : gbrd M 2 = nI nr) (h20 : nr ≤ 20) : Con K mX11_parseStatement [.ref m] 0 0 n h (RetP none n (Ms h0 m (tkS (ps M t Z nd nr).1 (ps M t Z nd nr).2))) := by
  refine Con.of (by decide +kernel) (Nat.le_of_ble_eq_true rfl) ?_
  have t82 : ∀ h1, Ms h0 m (tkS (ps1 M t Z nd nr).1 (ps1 M t Z nd nr).2) h1 → GG (K, mX11_parseStatement, 0, 0, RetP none n (Ms h0 m (tkS (ps M t Z nd nr).1 (ps M t Z nd nr).2))) 0 0 82 [(0, .ref m)] [] n h1 := by
    intro h1 x
    refine mj_aload_n 0 dX11_parseStatement_82 rfl ?_
    refine mj_aload_n 0 dX11_parseStatement_83 rfl ?_
    refine mS_gtok dX11_parseStatement_84 fgX11_299 x ?_
    refine mj_eq (tkS_gtok _ _) ?_
    refine mj_iconst (v := 4) dX11_parseStatement_87 rfl ?_
    refine mj_icmp_ne 95 dX11_parseStatement_88 (by decide) (fun c_88 => ?_) (fun c_88 => ?_)
    · refine mj_iconst (v := 0) dX11_parseStatement_95 rfl ?_
      refine mj_iconst (v := 1) dX11_parseStatement_96 rfl ?_
      refine mS_cV0 x [_, _] dX11_parseStatement_97 cwX11_require lkX11_328 rfl rfl rfl (cs_require x (b := decide (ztok (ps1 M t Z nd nr).2 = 4)) (code := 1) (by first | (rw [decide_eq_true (show ztok (ps1 M t Z nd nr).2 = 4 from c_88)]; rfl) | (rw [decide_eq_false (show ¬ ztok (ps1 M t Z nd nr).2 = 4 from c_88)]; rfl))) ⟨Nat.le_of_ble_eq_true rfl, Nat.le_of_ble_eq_true rfl, Nat.le_of_ble_eq_true rfl, Nat.le_of_ble_eq_true rfl, Nat.le_of_ble_eq_true rfl⟩ (fun h x => ?_)
      refine mj_aload_n 0 dX11_parseStatement_100 rfl ?_
      refine mS_cV0 x [] dX11_parseStatement_101 cwX11_advance lkX11_332 rfl rfl rfl (cs_advance x (by rw [ps1_tx.2]; exact ht) h6 (by rw [z_req_pos]; exact ps1_ok hp)) ⟨Nat.le_of_ble_eq_true rfl, Nat.le_of_ble_eq_true rfl, Nat.le_of_ble_eq_true rfl, Nat.le_of_ble_eq_true rfl, Nat.le_of_ble_eq_true rfl⟩ (fun h x => ?_)
      exact mj_vret dX11_parseStatement_104 rfl (Nat.le_of_ble_eq_true rfl) (Nat.le_of_ble_eq_true rfl) ⟨rfl, rfl, (by rw [ps1_tx.1] at x; exact tk_pair (by unfold ps; exact rfl) x)⟩
    · refine mj_iconst (v := 1) dX11_parseStatement_91 rfl ?_
      refine mj_goto 96 dX11_parseStatement_92 (by decide) ?_
      refine mj_iconst (v := 1) dX11_parseStatement_96 rfl ?_
      refine mS_cV0 x [_, _] dX11_parseStatement_97 cwX11_require lkX11_328 rfl rfl rfl (cs_require x (b := decide (ztok (ps1 M t Z nd nr).2 = 4)) (code := 1) (by first | (rw [decide_eq_true (show ztok (ps1 M t Z nd nr).2 = 4 from c_88)]; rfl) | (rw [decide_eq_false (show ¬ ztok (ps1 M t Z nd nr).2 = 4 from c_88)]; rfl))) ⟨Nat.le_of_ble_eq_true rfl, Nat.le_of_ble_eq_true rfl, Nat.le_of_ble_eq_true rfl, Nat.le_of_ble_eq_true rfl, Nat.le_of_ble_eq_true rfl⟩ (fun h x => ?_)
      refine mj_aload_n 0 dX11_parseStatement_100 rfl ?_
      refine mS_cV0 x [] dX11_parseStatement_101 cwX11_advance lkX11_332 rfl rfl rfl (cs_advance x (by rw [ps1_tx.2]; exact ht) h6 (by rw [z_req_pos]; exact ps1_ok hp)) ⟨Nat.le_of_ble_eq_true rfl, Nat.le_of_ble_eq_true rfl, Nat.le_of_ble_eq_true rfl, Nat.le_of_ble_eq_true rfl, Nat.le_of_ble_eq_true rfl⟩ (fun h x => ?_)
      exact mj_vret dX11_parseStatement_104 rfl (Nat.le_of_ble_eq_true rfl) (Nat.le_of_ble_eq_true rfl) ⟨rfl, rfl, (by rw [ps1_tx.1] at x; exact tk_pair (by unfold ps; exact rfl) x)⟩
  refine mj_aload_n 0 dX11_parseStatement_0 rfl ?_
  refine mj_ldcSW (show (("CarpoolModel", 341, "driver", 0) : String × Nat × String × Nat) ∈ strW by decide +kernel) dX11_parseStatement_1 ?_
  refine mS_cV1 x [_] dX11_parseStatement_4 cwX11_isWord lkX11_342 rfl rfl rfl (cs_isWord x (q := 0) (by decide) (by omega)) ⟨Nat.le_of_ble_eq_true rfl, Nat.le_of_ble_eq_true rfl, Nat.le_of_ble_eq_true rfl, Nat.le_of_ble_eq_true rfl, Nat.le_of_ble_eq_true rfl⟩ (fun h x => ?_)
  refine mj_if_eq 17 dX11_parseStatement_7 (by decide) (fun c_7 => ?_) (fun c_7 => ?_)
  · have y0 := bI_0.mp c_7
    refine mj_aload_n 0 dX11_parseStatement_17 rfl ?_
    refine mj_ldcSW (show (("CarpoolModel", 349, "rider", 1) : String × Nat × String × Nat) ∈ strW by decide +kernel) dX11_parseStatement_18 ?_
    refine mS_cV1 x [_] dX11_parseStatement_21 cwX11_isWord lkX11_342 rfl rfl rfl (cs_isWord x (q := 1) (by decide) (by omega)) ⟨Nat.le_of_ble_eq_true rfl, Nat.le_of_ble_eq_true rfl, Nat.le_of_ble_eq_true rfl, Nat.le_of_ble_eq_true rfl, Nat.le_of_ble_eq_true rfl⟩ (fun h x => ?_)
    refine mj_if_eq 34 dX11_parseStatement_24 (by decide) (fun c_24 => ?_) (fun c_24 => ?_)
    · have y1 := bI_0.mp c_24
      refine mj_aload_n 0 dX11_parseStatement_34 rfl ?_
      refine mj_aload_n 0 dX11_parseStatement_35 rfl ?_
      refine mj_ldcSW (show (("CarpoolModel", 353, "penalty", 2) : String × Nat × String × Nat) ∈ strW by decide +kernel) dX11_parseStatement_36 ?_
      refine mS_cV1 x [_] dX11_parseStatement_39 cwX11_isWord lkX11_342 rfl rfl rfl (cs_isWord x (q := 2) (by decide) (by omega)) ⟨Nat.le_of_ble_eq_true rfl, Nat.le_of_ble_eq_true rfl, Nat.le_of_ble_eq_true rfl, Nat.le_of_ble_eq_true rfl, Nat.le_of_ble_eq_true rfl⟩ (fun h x => ?_)
      refine mj_iconst (v := 1) dX11_parseStatement_42 rfl ?_
      refine mS_cV0 x [_, _] dX11_parseStatement_43 cwX11_require lkX11_328 rfl rfl rfl (cs_require x (b := z_isw Z 2) (code := 1) rfl) ⟨Nat.le_of_ble_eq_true rfl, Nat.le_of_ble_eq_true rfl, Nat.le_of_ble_eq_true rfl, Nat.le_of_ble_eq_true rfl, Nat.le_of_ble_eq_true rfl⟩ (fun h x => ?_)
      refine mj_aload_n 0 dX11_parseStatement_46 rfl ?_
      refine mS_cV0 x [] dX11_parseStatement_47 cwX11_advance lkX11_332 rfl rfl rfl (cs_advance x ht h6 (by rw [z_req_pos]; exact hp)) ⟨Nat.le_of_ble_eq_true rfl, Nat.le_of_ble_eq_true rfl, Nat.le_of_ble_eq_true rfl, Nat.le_of_ble_eq_true rfl, Nat.le_of_ble_eq_true rfl⟩ (fun h x => ?_)
      refine mj_aload_n 0 dX11_parseStatement_50 rfl ?_
      refine mj_iconst (v := 0) dX11_parseStatement_51 rfl ?_
      refine mj_sipush (v := (9999)) dX11_parseStatement_52 rfl ?_
      refine mS_cV1 x [_, _] dX11_parseStatement_55 cwX11_parseNumber lkX11_335 rfl rfl rfl (cs_parseNumber (Z := zp1 (gtxt M) t Z) x ht h6 (zp1_ok hp)) ⟨Nat.le_of_ble_eq_true rfl, Nat.le_of_ble_eq_true rfl, Nat.le_of_ble_eq_true rfl, Nat.le_of_ble_eq_true rfl, Nat.le_of_ble_eq_true rfl⟩ (fun h x => ?_)
      have x : Ms h0 m (tkS M (zp2 (gtxt M) t Z)) h := x
      refine mj_istore_n (ls' := [(1, _), (0, _)]) dX11_parseStatement_58 (Nat.le_of_ble_eq_true rfl) rfl ?_
      refine mj_aload_n 1 dX11_parseStatement_59 rfl ?_
      refine mS_gbrd dX11_parseStatement_60 fgX11_7 x ?_
      refine mj_iconst (v := 0) dX11_parseStatement_63 rfl ?_
      refine mj_aload_n 1 dX11_parseStatement_64 rfl ?_
      refine mS_gec dX11_parseStatement_65 fgX11_322 x ?_
      refine mj_eq (tkS_gec _ _) ?_
      refine mj_if_ne 75 dX11_parseStatement_68 (by decide) (fun c_68 => ?_) (fun c_68 => ?_)
      · refine mj_aload_n 1 dX11_parseStatement_75 rfl ?_
        refine mS_gbrd dX11_parseStatement_76 fgX11_7 x ?_
        refine mj_iconst (v := 0) dX11_parseStatement_79 rfl ?_
        refine mS_lbrd x ((show (0 : Int32).toInt = ((0 : Nat) : Int) from rfl)) (by first | assumption | omega | decide) dX11_parseStatement_80 ?_
        refine mj_eq (congrFun (tkS_gb _ _) 0) ?_
        refine mS_abrd x (show (0 : Int32).toInt = ((0 : Nat) : Int) from rfl) (by first | assumption | omega | decide) dX11_parseStatement_81 (fun h x => ?_)
        rw [tkS_brd, tkS_gb] at x
        exact mj_ls [1] rfl (t82 _ (tk_pair (by unfold ps1; rw [if_neg (by rw [y0]; decide), if_neg (by rw [y1]; decide)]; unfold pp_; rw [if_neg c_68]) x))
      · refine mj_iload_n 0 dX11_parseStatement_71 rfl ?_
        refine mj_goto 81 dX11_parseStatement_72 (by decide) ?_
        refine mS_abrd x (show (0 : Int32).toInt = ((0 : Nat) : Int) from rfl) (by first | assumption | omega | decide) dX11_parseStatement_81 (fun h x => ?_)
        rw [tkS_brd, tkS_gb] at x
        exact mj_ls [1] rfl (t82 _ (tk_pair (by unfold ps1; rw [if_neg (by rw [y0]; decide), if_neg (by rw [y1]; decide)]; unfold pp_; rw [if_pos c_68]) x))
    · have y1 := bI_n0.mp c_24
      refine mj_aload_n 0 dX11_parseStatement_27 rfl ?_
      refine mS_cV0 x [] dX11_parseStatement_28 cwX11_parseRider lkX11_350 rfl rfl rfl (cs_parseRider x ht h6 hp hnr h20) ⟨Nat.le_of_ble_eq_true rfl, Nat.le_of_ble_eq_true rfl, Nat.le_of_ble_eq_true rfl, Nat.le_of_ble_eq_true rfl, Nat.le_of_ble_eq_true rfl⟩ (fun h x => ?_)
      refine mj_goto 82 dX11_parseStatement_31 (by decide) ?_
      exact mj_ls [0] rfl (t82 _ (by unfold ps1; rw [if_neg (by rw [y0]; decide), if_pos y1]; exact x))
  · have y0 := bI_n0.mp c_7
    refine mj_aload_n 0 dX11_parseStatement_10 rfl ?_
    refine mS_cV0 x [] dX11_parseStatement_11 cwX11_parseDriver lkX11_346 rfl rfl rfl (cs_parseDriver x ht h6 hp hnd h8) ⟨Nat.le_of_ble_eq_true rfl, Nat.le_of_ble_eq_true rfl, Nat.le_of_ble_eq_true rfl, Nat.le_of_ble_eq_true rfl, Nat.le_of_ble_eq_true rfl⟩ (fun h x => ?_)
    refine mj_goto 82 dX11_parseStatement_14 (by decide) ?_
    exact mj_ls [0] rfl (t82 _ (by unfold ps1; rw [if_pos y0]; exact x))
