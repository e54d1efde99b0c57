theorem nI_ne_m1 {a : Nat} (h : a < 2147483648) : ¬ nI a = -1 := fun z => by
  have := congrArg Int32.toInt z
  rw [ixn h, show (-1 : Int32).toInt = -1 from rfl] at this
  omega
theorem sthr_ss (M : MS) (a b : Int32) : sthr (sthr M a) b = sthr M b := by
  show (vf_upd (vf_upd (mF M) 7 a) 7 b, _) = (vf_upd (mF M) 7 b, _)
  rw [vf_ss]
  rfl
theorem wD_ss (M : MS) (G : Nat → Int32) (d f : Nat) (v : Int32) : wD (sbrd M G) d f v = sbrd M (upd G (8 + 10 * d + f) v) := by
  unfold wD
  rw [sbrd_ss]
  rfl
def a_zero (g : Nat → Int32) (d : Nat) : Nat → Nat → Int32
  | 0 => g
  | k + 1 => upd (a_zero g d k) (8 + 10 * d + k) 0
def a_drvG (g : Nat → Int32) (d : Nat) (se de li ra : Int32) : Nat → Int32 := upd (upd (upd (upd (a_zero g d 10) (8 + 10 * d + 4) se) (8 + 10 * d + 5) de) (8 + 10 * d + 6) li) (8 + 10 * d + 7) ra
/-- a new driver -/
def a_drv (M : MS) (d : Nat) (se de li ra : Int32) : MS := sbrd (scrd (sbrd M (a_drvG (gbrd M) d se de li ra)) (vp_updL (gcrd M) d 0)) (upd (a_drvG (gbrd M) d se de li ra) 1 (nI (d + 1)))
theorem a_zero_1 (g : Nat → Int32) (d : Nat) : ∀ k, a_zero g d k 1 = g 1
  | 0 => rfl
  | k + 1 => by unfold a_zero upd; rw [if_neg (by omega)]; exact a_zero_1 g d k
theorem a_drvG_1 (g : Nat → Int32) (d : Nat) (se de li ra : Int32) : a_drvG g d se de li ra 1 = g 1 := by
  unfold a_drvG upd
  rw [if_neg (by omega), if_neg (by omega), if_neg (by omega), if_neg (by omega)]
  exact a_zero_1 g d 10
set_option maxRecDepth 100000 in
set_option maxHeartbeats 4000000 in
theorem cs_appendDriver {K : KX} {n : Nat} {h : MH} {h0 : MH} {m : Nat} {M : MS} (x : Ms h0 m M h) {d : Nat} {se de li ra : Int32} (hd : d < 8) (hn : gbrd M 1 = nI d) : Con K mX11_appendDriver [.ref m, .int se, .int de, .int li, .int ra] 0 0 n h (RetP (some (.int (nI d))) n (Ms h0 m (a_drv M d se de li ra))) := by
  refine Con.of (by decide +kernel) (Nat.le_of_ble_eq_true rfl) ?_
  have loop : ∀ (f : Nat) (k : Nat) (h1 : MH), k + f = 10 → Ms h0 m (sbrd M (a_zero (gbrd M) d k)) h1 → GG (K, mX11_appendDriver, 0, 0, RetP (some (.int (nI d))) n (Ms h0 m (a_drv M d se de li ra))) 0 0 11 [(6, .int (nI k)), (5, .int (nI d)), (0, .ref m), (1, .int se), (2, .int de), (3, .int li), (4, .int ra)] [] n h1 := by
    intro f
    induction f with
    | zero =>
      intro k h1 hk x
      have hke : k = 10 := by omega
      subst hke
      refine mj_iload 0 dX11_appendDriver_11 rfl ?_
      refine mj_bipush (v := (10)) dX11_appendDriver_13 rfl ?_
      refine mj_icmp_ge 33 dX11_appendDriver_15 (by decide) (fun c_15 => ?_) (fun c_15 => ?_)
      · refine mj_aload_n 2 dX11_appendDriver_33 rfl ?_
        refine mj_iload 1 dX11_appendDriver_34 rfl ?_
        refine mj_iconst (v := 4) dX11_appendDriver_36 rfl ?_
        refine mj_iload_n 3 dX11_appendDriver_37 rfl ?_
        refine mS_cV0 x [_, _, _] dX11_appendDriver_38 cwX11_setDriver lkX11_75 rfl rfl rfl (cs_setDriver x (d := d) (f := 4) (v := se) hd (by first | decide | omega)) ⟨Nat.le_of_ble_eq_true rfl, Nat.le_of_ble_eq_true rfl, Nat.le_of_ble_eq_true rfl, Nat.le_of_ble_eq_true rfl, Nat.le_of_ble_eq_true rfl⟩ (fun h x => ?_)
        rw [wD_ss] at x
        refine mj_aload_n 2 dX11_appendDriver_41 rfl ?_
        refine mj_iload 1 dX11_appendDriver_42 rfl ?_
        refine mj_iconst (v := 5) dX11_appendDriver_44 rfl ?_
        refine mj_iload_n 4 dX11_appendDriver_45 rfl ?_
        refine mS_cV0 x [_, _, _] dX11_appendDriver_46 cwX11_setDriver lkX11_75 rfl rfl rfl (cs_setDriver x (d := d) (f := 5) (v := de) hd (by first | decide | omega)) ⟨Nat.le_of_ble_eq_true rfl, Nat.le_of_ble_eq_true rfl, Nat.le_of_ble_eq_true rfl, Nat.le_of_ble_eq_true rfl, Nat.le_of_ble_eq_true rfl⟩ (fun h x => ?_)
        rw [wD_ss] at x
        refine mj_aload_n 2 dX11_appendDriver_49 rfl ?_
        refine mj_iload 1 dX11_appendDriver_50 rfl ?_
        refine mj_bipush (v := (6)) dX11_appendDriver_52 rfl ?_
        refine mj_iload_n 5 dX11_appendDriver_54 rfl ?_
        refine mS_cV0 x [_, _, _] dX11_appendDriver_55 cwX11_setDriver lkX11_75 rfl rfl rfl (cs_setDriver x (d := d) (f := 6) (v := li) hd (by first | decide | omega)) ⟨Nat.le_of_ble_eq_true rfl, Nat.le_of_ble_eq_true rfl, Nat.le_of_ble_eq_true rfl, Nat.le_of_ble_eq_true rfl, Nat.le_of_ble_eq_true rfl⟩ (fun h x => ?_)
        rw [wD_ss] at x
        refine mj_aload_n 2 dX11_appendDriver_58 rfl ?_
        refine mj_iload 1 dX11_appendDriver_59 rfl ?_
        refine mj_bipush (v := (7)) dX11_appendDriver_61 rfl ?_
        refine mj_iload 6 dX11_appendDriver_63 rfl ?_
        refine mS_cV0 x [_, _, _] dX11_appendDriver_65 cwX11_setDriver lkX11_75 rfl rfl rfl (cs_setDriver x (d := d) (f := 7) (v := ra) hd (by first | decide | omega)) ⟨Nat.le_of_ble_eq_true rfl, Nat.le_of_ble_eq_true rfl, Nat.le_of_ble_eq_true rfl, Nat.le_of_ble_eq_true rfl, Nat.le_of_ble_eq_true rfl⟩ (fun h x => ?_)
        rw [wD_ss] at x
        have x : Ms h0 m (sbrd M (a_drvG (gbrd M) d se de li ra)) h := x
        refine mj_aload_n 2 dX11_appendDriver_68 rfl ?_
        refine mS_gcrd dX11_appendDriver_69 fgX11_19 x ?_
        refine mj_iload 1 dX11_appendDriver_72 rfl ?_
        refine mj_lconst (v := 0) dX11_appendDriver_74 rfl ?_
        refine mS_acrd x ((by first | assumption | exact ixn (by omega))) (by first | assumption | omega | decide) dX11_appendDriver_75 (fun h x => ?_)
        refine mj_aload_n 2 dX11_appendDriver_76 rfl ?_
        refine mS_gbrd dX11_appendDriver_77 fgX11_7 x ?_
        refine mj_iconst (v := 1) dX11_appendDriver_80 rfl ?_
        refine mj_dup2 dX11_appendDriver_81 rfl rfl ?_
        refine mS_lbrd x ((show (1 : Int32).toInt = ((1 : Nat) : Int) from rfl)) (by first | assumption | omega | decide) dX11_appendDriver_82 ?_
        refine mj_eq ((a_drvG_1 (gbrd M) d se de li ra).trans hn) ?_
        refine mj_iconst (v := 1) dX11_appendDriver_83 rfl ?_
        refine mj_iadd dX11_appendDriver_84 ?_
        refine mj_eq (nI_1 _) ?_
        refine mS_abrd x ((show (1 : Int32).toInt = ((1 : Nat) : Int) from rfl)) (by first | assumption | omega | decide) dX11_appendDriver_85 (fun h x => ?_)
        refine mj_iload 1 dX11_appendDriver_86 rfl ?_
        exact mj_iret dX11_appendDriver_88 rfl (Nat.le_of_ble_eq_true rfl) (Nat.le_of_ble_eq_true rfl) ⟨rfl, rfl, x⟩
      · exact absurd (show (10 : Int32) ≤ nI 10 by decide) c_15
    | succ f ih =>
      intro k h1 hk x
      refine mj_iload 0 dX11_appendDriver_11 rfl ?_
      refine mj_bipush (v := (10)) dX11_appendDriver_13 rfl ?_
      refine mj_icmp_ge 33 dX11_appendDriver_15 (by decide) (fun c_15 => ?_) (fun c_15 => ?_)
      · exact absurd (show nI 10 ≤ nI k from c_15) (nI_ge (by omega) (by omega))
      · refine mj_aload_n 2 dX11_appendDriver_18 rfl ?_
        refine mj_iload 1 dX11_appendDriver_19 rfl ?_
        refine mj_iload 0 dX11_appendDriver_21 rfl ?_
        refine mj_iconst (v := 0) dX11_appendDriver_23 rfl ?_
        refine mS_cV0 x [_, _, _] dX11_appendDriver_24 cwX11_setDriver lkX11_75 rfl rfl rfl (cs_setDriver x (d := d) (f := k) (v := 0) hd (by first | decide | omega)) ⟨Nat.le_of_ble_eq_true rfl, Nat.le_of_ble_eq_true rfl, Nat.le_of_ble_eq_true rfl, Nat.le_of_ble_eq_true rfl, Nat.le_of_ble_eq_true rfl⟩ (fun h x => ?_)
        rw [wD_ss] at x
        refine mj_iinc (ls' := [(6, _), (5, _), (0, _), (1, _), (2, _), (3, _), (4, _)]) 0 dX11_appendDriver_27 rfl (nI_s _) (Nat.le_of_ble_eq_true rfl) rfl ?_
        refine mj_goto 11 dX11_appendDriver_30 (by decide) ?_
        exact mj_ls [0, 1, 2, 3, 4, 5, 6] rfl (ih (k + 1) h (by omega) x)
  refine mj_aload_n 0 dX11_appendDriver_0 rfl ?_
  refine mS_gbrd dX11_appendDriver_1 fgX11_7 x ?_
  refine mj_iconst (v := 1) dX11_appendDriver_4 rfl ?_
  refine mS_lbrd x ((show (1 : Int32).toInt = ((1 : Nat) : Int) from rfl)) (by first | assumption | omega | decide) dX11_appendDriver_5 ?_
  refine mj_eq (hn) ?_
  refine mj_istore (ls' := [(5, _), (0, _), (1, _), (2, _), (3, _), (4, _)]) dX11_appendDriver_6 (Nat.le_of_ble_eq_true rfl) rfl ?_
  refine mj_iconst (v := 0) dX11_appendDriver_8 rfl ?_
  refine mj_istore (ls' := [(6, _), (5, _), (0, _), (1, _), (2, _), (3, _), (4, _)]) dX11_appendDriver_9 (Nat.le_of_ble_eq_true rfl) rfl ?_
  exact mj_ls [0, 1, 2, 3, 4, 5, 6] rfl (loop 10 0 h (by omega) (by rw [show a_zero (gbrd M) d 0 = gbrd M from rfl, sbrd_id]; exact x))
set_option maxRecDepth 100000 in
set_option maxHeartbeats 4000000 in
theorem cs_addDriver_arg {K : KX} {n : Nat} {h : MH} {h0 : MH} {m : Nat} {M : MS} (x : Ms h0 m M h) {se de li ra : Int32} (hb : (b_in se 1 4 && b_in de 0 1439 && b_in li 0 400 && b_in ra 1 99) = false) : Con K mX11_addDriver [.ref m, .int se, .int de, .int li, .int ra] 0 0 n h (RetP (some (.int (0))) n (Ms h0 m (sthr M 1))) := by
  refine Con.of (by decide +kernel) (Nat.le_of_ble_eq_true rfl) ?_
  refine mj_aload_n 0 dX11_addDriver_0 rfl ?_
  refine mj_iconst (v := 0) dX11_addDriver_1 rfl ?_
  refine mS_pthr dX11_addDriver_2 fgX11_61 x (fun h x => ?_)
  refine mj_iload_n 1 dX11_addDriver_5 rfl ?_
  refine mj_iconst (v := 1) dX11_addDriver_6 rfl ?_
  refine mj_iconst (v := 4) dX11_addDriver_7 rfl ?_
  refine mj_cS1 [_, _, _] dX11_addDriver_8 cwX11_isBetween lkX11_64 rfl (cn_X11_isBetween _ _ _) ⟨Nat.le_of_ble_eq_true rfl, Nat.le_of_ble_eq_true rfl, Nat.le_of_ble_eq_true rfl, Nat.le_of_ble_eq_true rfl, Nat.le_of_ble_eq_true rfl⟩ (fun h' e' => ?_)
  subst h'
  refine mj_if_eq 47 dX11_addDriver_11 (by decide) (fun c_11 => ?_) (fun c_11 => ?_)
  · have z0 := bI_0.mp c_11
    refine mj_aload_n 0 dX11_addDriver_47 rfl ?_
    refine mj_iconst (v := 1) dX11_addDriver_48 rfl ?_
    refine mS_cV1 x [_] dX11_addDriver_49 cwX11_fail lkX11_79 rfl rfl rfl (cs_fail x (v := 1)) ⟨Nat.le_of_ble_eq_true rfl, Nat.le_of_ble_eq_true rfl, Nat.le_of_ble_eq_true rfl, Nat.le_of_ble_eq_true rfl, Nat.le_of_ble_eq_true rfl⟩ (fun h x => ?_)
    exact mj_iret dX11_addDriver_52 rfl (Nat.le_of_ble_eq_true rfl) (Nat.le_of_ble_eq_true rfl) ⟨rfl, rfl, (by rw [sthr_ss] at x; exact x)⟩
  · have z0 := bI_n0.mp c_11
    refine mj_iload_n 2 dX11_addDriver_14 rfl ?_
    refine mj_iconst (v := 0) dX11_addDriver_15 rfl ?_
    refine mj_sipush (v := (1439)) dX11_addDriver_16 rfl ?_
    refine mj_cS1 [_, _, _] dX11_addDriver_19 cwX11_isBetween lkX11_64 rfl (cn_X11_isBetween _ _ _) ⟨Nat.le_of_ble_eq_true rfl, Nat.le_of_ble_eq_true rfl, Nat.le_of_ble_eq_true rfl, Nat.le_of_ble_eq_true rfl, Nat.le_of_ble_eq_true rfl⟩ (fun h' e' => ?_)
    subst h'
    refine mj_if_eq 47 dX11_addDriver_22 (by decide) (fun c_22 => ?_) (fun c_22 => ?_)
    · have z1 := bI_0.mp c_22
      refine mj_aload_n 0 dX11_addDriver_47 rfl ?_
      refine mj_iconst (v := 1) dX11_addDriver_48 rfl ?_
      refine mS_cV1 x [_] dX11_addDriver_49 cwX11_fail lkX11_79 rfl rfl rfl (cs_fail x (v := 1)) ⟨Nat.le_of_ble_eq_true rfl, Nat.le_of_ble_eq_true rfl, Nat.le_of_ble_eq_true rfl, Nat.le_of_ble_eq_true rfl, Nat.le_of_ble_eq_true rfl⟩ (fun h x => ?_)
      exact mj_iret dX11_addDriver_52 rfl (Nat.le_of_ble_eq_true rfl) (Nat.le_of_ble_eq_true rfl) ⟨rfl, rfl, (by rw [sthr_ss] at x; exact x)⟩
    · have z1 := bI_n0.mp c_22
      refine mj_iload_n 3 dX11_addDriver_25 rfl ?_
      refine mj_iconst (v := 0) dX11_addDriver_26 rfl ?_
      refine mj_sipush (v := (400)) dX11_addDriver_27 rfl ?_
      refine mj_cS1 [_, _, _] dX11_addDriver_30 cwX11_isBetween lkX11_64 rfl (cn_X11_isBetween _ _ _) ⟨Nat.le_of_ble_eq_true rfl, Nat.le_of_ble_eq_true rfl, Nat.le_of_ble_eq_true rfl, Nat.le_of_ble_eq_true rfl, Nat.le_of_ble_eq_true rfl⟩ (fun h' e' => ?_)
      subst h'
      refine mj_if_eq 47 dX11_addDriver_33 (by decide) (fun c_33 => ?_) (fun c_33 => ?_)
      · have z2 := bI_0.mp c_33
        refine mj_aload_n 0 dX11_addDriver_47 rfl ?_
        refine mj_iconst (v := 1) dX11_addDriver_48 rfl ?_
        refine mS_cV1 x [_] dX11_addDriver_49 cwX11_fail lkX11_79 rfl rfl rfl (cs_fail x (v := 1)) ⟨Nat.le_of_ble_eq_true rfl, Nat.le_of_ble_eq_true rfl, Nat.le_of_ble_eq_true rfl, Nat.le_of_ble_eq_true rfl, Nat.le_of_ble_eq_true rfl⟩ (fun h x => ?_)
        exact mj_iret dX11_addDriver_52 rfl (Nat.le_of_ble_eq_true rfl) (Nat.le_of_ble_eq_true rfl) ⟨rfl, rfl, (by rw [sthr_ss] at x; exact x)⟩
      · have z2 := bI_n0.mp c_33
        refine mj_iload 4 dX11_addDriver_36 rfl ?_
        refine mj_iconst (v := 1) dX11_addDriver_38 rfl ?_
        refine mj_bipush (v := (99)) dX11_addDriver_39 rfl ?_
        refine mj_cS1 [_, _, _] dX11_addDriver_41 cwX11_isBetween lkX11_64 rfl (cn_X11_isBetween _ _ _) ⟨Nat.le_of_ble_eq_true rfl, Nat.le_of_ble_eq_true rfl, Nat.le_of_ble_eq_true rfl, Nat.le_of_ble_eq_true rfl, Nat.le_of_ble_eq_true rfl⟩ (fun h' e' => ?_)
        subst h'
        refine mj_if_ne 53 dX11_addDriver_44 (by decide) (fun c_44 => ?_) (fun c_44 => ?_)
        · simp [z0, z1, z2, bI_n0.mp c_44] at hb
        · refine mj_aload_n 0 dX11_addDriver_47 rfl ?_
          refine mj_iconst (v := 1) dX11_addDriver_48 rfl ?_
          refine mS_cV1 x [_] dX11_addDriver_49 cwX11_fail lkX11_79 rfl rfl rfl (cs_fail x (v := 1)) ⟨Nat.le_of_ble_eq_true rfl, Nat.le_of_ble_eq_true rfl, Nat.le_of_ble_eq_true rfl, Nat.le_of_ble_eq_true rfl, Nat.le_of_ble_eq_true rfl⟩ (fun h x => ?_)
          exact mj_iret dX11_addDriver_52 rfl (Nat.le_of_ble_eq_true rfl) (Nat.le_of_ble_eq_true rfl) ⟨rfl, rfl, (by rw [sthr_ss] at x; exact x)⟩
set_option maxRecDepth 100000 in
set_option maxHeartbeats 4000000 in
theorem cs_addDriver_full {K : KX} {n : Nat} {h : MH} {h0 : MH} {m : Nat} {M : MS} (x : Ms h0 m M h) {se de li ra : Int32} (hb : (b_in se 1 4 && b_in de 0 1439 && b_in li 0 400 && b_in ra 1 99) = true) (hf : gbrd M 1 = 8) : Con K mX11_addDriver [.ref m, .int se, .int de, .int li, .int ra] 0 0 n h (RetP (some (.int (0))) n (Ms h0 m (sthr M 2))) := by
  refine Con.of (by decide +kernel) (Nat.le_of_ble_eq_true rfl) ?_
  simp only [Bool.and_eq_true] at hb
  obtain ⟨⟨⟨q0, q1⟩, q2⟩, q3⟩ := hb
  refine mj_aload_n 0 dX11_addDriver_0 rfl ?_
  refine mj_iconst (v := 0) dX11_addDriver_1 rfl ?_
  refine mS_pthr dX11_addDriver_2 fgX11_61 x (fun h x => ?_)
  refine mj_iload_n 1 dX11_addDriver_5 rfl ?_
  refine mj_iconst (v := 1) dX11_addDriver_6 rfl ?_
  refine mj_iconst (v := 4) dX11_addDriver_7 rfl ?_
  refine mj_cS1 [_, _, _] dX11_addDriver_8 cwX11_isBetween lkX11_64 rfl (cn_X11_isBetween _ _ _) ⟨Nat.le_of_ble_eq_true rfl, Nat.le_of_ble_eq_true rfl, Nat.le_of_ble_eq_true rfl, Nat.le_of_ble_eq_true rfl, Nat.le_of_ble_eq_true rfl⟩ (fun h' e' => ?_)
  subst h'
  refine mj_if_eq 47 dX11_addDriver_11 (by decide) (fun c_11 => ?_) (fun c_11 => ?_)
  · exact absurd ((bI_0.mp c_11).symm.trans q0) (by decide)
  · refine mj_iload_n 2 dX11_addDriver_14 rfl ?_
    refine mj_iconst (v := 0) dX11_addDriver_15 rfl ?_
    refine mj_sipush (v := (1439)) dX11_addDriver_16 rfl ?_
    refine mj_cS1 [_, _, _] dX11_addDriver_19 cwX11_isBetween lkX11_64 rfl (cn_X11_isBetween _ _ _) ⟨Nat.le_of_ble_eq_true rfl, Nat.le_of_ble_eq_true rfl, Nat.le_of_ble_eq_true rfl, Nat.le_of_ble_eq_true rfl, Nat.le_of_ble_eq_true rfl⟩ (fun h' e' => ?_)
    subst h'
    refine mj_if_eq 47 dX11_addDriver_22 (by decide) (fun c_22 => ?_) (fun c_22 => ?_)
    · exact absurd ((bI_0.mp c_22).symm.trans q1) (by decide)
    · refine mj_iload_n 3 dX11_addDriver_25 rfl ?_
      refine mj_iconst (v := 0) dX11_addDriver_26 rfl ?_
      refine mj_sipush (v := (400)) dX11_addDriver_27 rfl ?_
      refine mj_cS1 [_, _, _] dX11_addDriver_30 cwX11_isBetween lkX11_64 rfl (cn_X11_isBetween _ _ _) ⟨Nat.le_of_ble_eq_true rfl, Nat.le_of_ble_eq_true rfl, Nat.le_of_ble_eq_true rfl, Nat.le_of_ble_eq_true rfl, Nat.le_of_ble_eq_true rfl⟩ (fun h' e' => ?_)
      subst h'
      refine mj_if_eq 47 dX11_addDriver_33 (by decide) (fun c_33 => ?_) (fun c_33 => ?_)
      · exact absurd ((bI_0.mp c_33).symm.trans q2) (by decide)
      · refine mj_iload 4 dX11_addDriver_36 rfl ?_
        refine mj_iconst (v := 1) dX11_addDriver_38 rfl ?_
        refine mj_bipush (v := (99)) dX11_addDriver_39 rfl ?_
        refine mj_cS1 [_, _, _] dX11_addDriver_41 cwX11_isBetween lkX11_64 rfl (cn_X11_isBetween _ _ _) ⟨Nat.le_of_ble_eq_true rfl, Nat.le_of_ble_eq_true rfl, Nat.le_of_ble_eq_true rfl, Nat.le_of_ble_eq_true rfl, Nat.le_of_ble_eq_true rfl⟩ (fun h' e' => ?_)
        subst h'
        refine mj_if_ne 53 dX11_addDriver_44 (by decide) (fun c_44 => ?_) (fun c_44 => ?_)
        · refine mj_aload_n 0 dX11_addDriver_53 rfl ?_
          refine mS_gbrd dX11_addDriver_54 fgX11_7 x ?_
          refine mj_iconst (v := 1) dX11_addDriver_57 rfl ?_
          refine mS_lbrd x ((show (1 : Int32).toInt = ((1 : Nat) : Int) from rfl)) (by first | assumption | omega | decide) dX11_addDriver_58 ?_
          refine mj_bipush (v := (8)) dX11_addDriver_59 rfl ?_
          refine mj_icmp_ne 72 dX11_addDriver_61 (by decide) (fun c_61 => ?_) (fun c_61 => ?_)
          · exact absurd hf c_61
          · refine mj_aload_n 0 dX11_addDriver_64 rfl ?_
            refine mj_iconst (v := 2) dX11_addDriver_65 rfl ?_
            refine mS_cV1 x [_] dX11_addDriver_66 cwX11_fail lkX11_79 rfl rfl rfl (cs_fail x (v := 2)) ⟨Nat.le_of_ble_eq_true rfl, Nat.le_of_ble_eq_true rfl, Nat.le_of_ble_eq_true rfl, Nat.le_of_ble_eq_true rfl, Nat.le_of_ble_eq_true rfl⟩ (fun h x => ?_)
            refine mj_goto 81 dX11_addDriver_69 (by decide) ?_
            exact mj_iret dX11_addDriver_81 rfl (Nat.le_of_ble_eq_true rfl) (Nat.le_of_ble_eq_true rfl) ⟨rfl, rfl, (by rw [sthr_ss] at x; exact x)⟩
        · exact absurd ((bI_0.mp c_44).symm.trans q3) (by decide)
set_option maxRecDepth 100000 in
set_option maxHeartbeats 4000000 in
theorem cs_addDriver {K : KX} {n : Nat} {h : MH} {h0 : MH} {m : Nat} {M : MS} (x : Ms h0 m M h) {se de li ra : Int32} (hb : (b_in se 1 4 && b_in de 0 1439 && b_in li 0 400 && b_in ra 1 99) = true) {d : Nat} (hd : d < 8) (hn : gbrd M 1 = nI d) : Con K mX11_addDriver [.ref m, .int se, .int de, .int li, .int ra] 0 0 n h (RetP (some (.int (nI d))) n (Ms h0 m (a_drv (sthr M 0) d se de li ra))) := by
  refine Con.of (by decide +kernel) (Nat.le_of_ble_eq_true rfl) ?_
  simp only [Bool.and_eq_true] at hb
  obtain ⟨⟨⟨q0, q1⟩, q2⟩, q3⟩ := hb
  refine mj_aload_n 0 dX11_addDriver_0 rfl ?_
  refine mj_iconst (v := 0) dX11_addDriver_1 rfl ?_
  refine mS_pthr dX11_addDriver_2 fgX11_61 x (fun h x => ?_)
  refine mj_iload_n 1 dX11_addDriver_5 rfl ?_
  refine mj_iconst (v := 1) dX11_addDriver_6 rfl ?_
  refine mj_iconst (v := 4) dX11_addDriver_7 rfl ?_
  refine mj_cS1 [_, _, _] dX11_addDriver_8 cwX11_isBetween lkX11_64 rfl (cn_X11_isBetween _ _ _) ⟨Nat.le_of_ble_eq_true rfl, Nat.le_of_ble_eq_true rfl, Nat.le_of_ble_eq_true rfl, Nat.le_of_ble_eq_true rfl, Nat.le_of_ble_eq_true rfl⟩ (fun h' e' => ?_)
  subst h'
  refine mj_if_eq 47 dX11_addDriver_11 (by decide) (fun c_11 => ?_) (fun c_11 => ?_)
  · exact absurd ((bI_0.mp c_11).symm.trans q0) (by decide)
  · refine mj_iload_n 2 dX11_addDriver_14 rfl ?_
    refine mj_iconst (v := 0) dX11_addDriver_15 rfl ?_
    refine mj_sipush (v := (1439)) dX11_addDriver_16 rfl ?_
    refine mj_cS1 [_, _, _] dX11_addDriver_19 cwX11_isBetween lkX11_64 rfl (cn_X11_isBetween _ _ _) ⟨Nat.le_of_ble_eq_true rfl, Nat.le_of_ble_eq_true rfl, Nat.le_of_ble_eq_true rfl, Nat.le_of_ble_eq_true rfl, Nat.le_of_ble_eq_true rfl⟩ (fun h' e' => ?_)
    subst h'
    refine mj_if_eq 47 dX11_addDriver_22 (by decide) (fun c_22 => ?_) (fun c_22 => ?_)
    · exact absurd ((bI_0.mp c_22).symm.trans q1) (by decide)
    · refine mj_iload_n 3 dX11_addDriver_25 rfl ?_
      refine mj_iconst (v := 0) dX11_addDriver_26 rfl ?_
      refine mj_sipush (v := (400)) dX11_addDriver_27 rfl ?_
      refine mj_cS1 [_, _, _] dX11_addDriver_30 cwX11_isBetween lkX11_64 rfl (cn_X11_isBetween _ _ _) ⟨Nat.le_of_ble_eq_true rfl, Nat.le_of_ble_eq_true rfl, Nat.le_of_ble_eq_true rfl, Nat.le_of_ble_eq_true rfl, Nat.le_of_ble_eq_true rfl⟩ (fun h' e' => ?_)
      subst h'
      refine mj_if_eq 47 dX11_addDriver_33 (by decide) (fun c_33 => ?_) (fun c_33 => ?_)
      · exact absurd ((bI_0.mp c_33).symm.trans q2) (by decide)
      · refine mj_iload 4 dX11_addDriver_36 rfl ?_
        refine mj_iconst (v := 1) dX11_addDriver_38 rfl ?_
        refine mj_bipush (v := (99)) dX11_addDriver_39 rfl ?_
        refine mj_cS1 [_, _, _] dX11_addDriver_41 cwX11_isBetween lkX11_64 rfl (cn_X11_isBetween _ _ _) ⟨Nat.le_of_ble_eq_true rfl, Nat.le_of_ble_eq_true rfl, Nat.le_of_ble_eq_true rfl, Nat.le_of_ble_eq_true rfl, Nat.le_of_ble_eq_true rfl⟩ (fun h' e' => ?_)
        subst h'
        refine mj_if_ne 53 dX11_addDriver_44 (by decide) (fun c_44 => ?_) (fun c_44 => ?_)
        · refine mj_aload_n 0 dX11_addDriver_53 rfl ?_
          refine mS_gbrd dX11_addDriver_54 fgX11_7 x ?_
          refine mj_iconst (v := 1) dX11_addDriver_57 rfl ?_
          refine mS_lbrd x ((show (1 : Int32).toInt = ((1 : Nat) : Int) from rfl)) (by first | assumption | omega | decide) dX11_addDriver_58 ?_
          refine mj_bipush (v := (8)) dX11_addDriver_59 rfl ?_
          refine mj_icmp_ne 72 dX11_addDriver_61 (by decide) (fun c_61 => ?_) (fun c_61 => ?_)
          · refine mj_aload_n 0 dX11_addDriver_72 rfl ?_
            refine mj_iload_n 1 dX11_addDriver_73 rfl ?_
            refine mj_iload_n 2 dX11_addDriver_74 rfl ?_
            refine mj_iload_n 3 dX11_addDriver_75 rfl ?_
            refine mj_iload 4 dX11_addDriver_76 rfl ?_
            refine mS_cV1 x [_, _, _, _] dX11_addDriver_78 cwX11_appendDriver lkX11_83 rfl rfl rfl (cs_appendDriver x hd hn) ⟨Nat.le_of_ble_eq_true rfl, Nat.le_of_ble_eq_true rfl, Nat.le_of_ble_eq_true rfl, Nat.le_of_ble_eq_true rfl, Nat.le_of_ble_eq_true rfl⟩ (fun h x => ?_)
            exact mj_iret dX11_addDriver_81 rfl (Nat.le_of_ble_eq_true rfl) (Nat.le_of_ble_eq_true rfl) ⟨rfl, rfl, x⟩
          · exact absurd ((nI_inj (by omega) (by omega)).mp ((show nI 8 = gbrd M 1 from c_61.symm).trans hn)) (by omega)
        · exact absurd ((bI_0.mp c_44).symm.trans q3) (by decide)
def a_tripG (g : Nat → Int32) (d : Nat) (sx sy ex ey : Int32) : Nat → Int32 := upd (upd (upd (upd g (8 + 10 * d + 0) sx) (8 + 10 * d + 1) sy) (8 + 10 * d + 2) ex) (8 + 10 * d + 3) ey
set_option maxRecDepth 100000 in
set_option maxHeartbeats 4000000 in
theorem cs_placeTrip {K : KX} {n : Nat} {h : MH} {h0 : MH} {m : Nat} {M : MS} (x : Ms h0 m M h) {d : Nat} {sx sy ex ey : Int32} (hd : d < 8) : Con K mX11_placeTrip [.ref m, .int (nI d), .int sx, .int sy, .int ex, .int ey] 0 0 n h (RetP (none) n (Ms h0 m (sbrd M (a_tripG (gbrd M) d sx sy ex ey)))) := by
  refine Con.of (by decide +kernel) (Nat.le_of_ble_eq_true rfl) ?_
  refine mj_aload_n 0 dX11_placeTrip_0 rfl ?_
  refine mj_iload_n 1 dX11_placeTrip_1 rfl ?_
  refine mj_iconst (v := 0) dX11_placeTrip_2 rfl ?_
  refine mj_iload_n 2 dX11_placeTrip_3 rfl ?_
  refine mS_cV0 x [_, _, _] dX11_placeTrip_4 cwX11_setDriver lkX11_75 rfl rfl rfl (cs_setDriver x (d := d) (f := 0) (v := sx) hd (by decide)) ⟨Nat.le_of_ble_eq_true rfl, Nat.le_of_ble_eq_true rfl, Nat.le_of_ble_eq_true rfl, Nat.le_of_ble_eq_true rfl, Nat.le_of_ble_eq_true rfl⟩ (fun h x => ?_)
  refine mj_aload_n 0 dX11_placeTrip_7 rfl ?_
  refine mj_iload_n 1 dX11_placeTrip_8 rfl ?_
  refine mj_iconst (v := 1) dX11_placeTrip_9 rfl ?_
  refine mj_iload_n 3 dX11_placeTrip_10 rfl ?_
  refine mS_cV0 x [_, _, _] dX11_placeTrip_11 cwX11_setDriver lkX11_75 rfl rfl rfl (cs_setDriver x (d := d) (f := 1) (v := sy) hd (by decide)) ⟨Nat.le_of_ble_eq_true rfl, Nat.le_of_ble_eq_true rfl, Nat.le_of_ble_eq_true rfl, Nat.le_of_ble_eq_true rfl, Nat.le_of_ble_eq_true rfl⟩ (fun h x => ?_)
  rw [show wD M d 0 sx = sbrd M (upd (gbrd M) (8 + 10 * d + 0) sx) from rfl, wD_ss] at x
  refine mj_aload_n 0 dX11_placeTrip_14 rfl ?_
  refine mj_iload_n 1 dX11_placeTrip_15 rfl ?_
  refine mj_iconst (v := 2) dX11_placeTrip_16 rfl ?_
  refine mj_iload 4 dX11_placeTrip_17 rfl ?_
  refine mS_cV0 x [_, _, _] dX11_placeTrip_19 cwX11_setDriver lkX11_75 rfl rfl rfl (cs_setDriver x (d := d) (f := 2) (v := ex) hd (by decide)) ⟨Nat.le_of_ble_eq_true rfl, Nat.le_of_ble_eq_true rfl, Nat.le_of_ble_eq_true rfl, Nat.le_of_ble_eq_true rfl, Nat.le_of_ble_eq_true rfl⟩ (fun h x => ?_)
  rw [wD_ss] at x
  refine mj_aload_n 0 dX11_placeTrip_22 rfl ?_
  refine mj_iload_n 1 dX11_placeTrip_23 rfl ?_
  refine mj_iconst (v := 3) dX11_placeTrip_24 rfl ?_
  refine mj_iload 5 dX11_placeTrip_25 rfl ?_
  refine mS_cV0 x [_, _, _] dX11_placeTrip_27 cwX11_setDriver lkX11_75 rfl rfl rfl (cs_setDriver x (d := d) (f := 3) (v := ey) hd (by decide)) ⟨Nat.le_of_ble_eq_true rfl, Nat.le_of_ble_eq_true rfl, Nat.le_of_ble_eq_true rfl, Nat.le_of_ble_eq_true rfl, Nat.le_of_ble_eq_true rfl⟩ (fun h x => ?_)
  rw [wD_ss] at x
  exact mj_vret dX11_placeTrip_30 rfl (Nat.le_of_ble_eq_true rfl) (Nat.le_of_ble_eq_true rfl) ⟨rfl, rfl, x⟩
set_option maxRecDepth 100000 in
set_option maxHeartbeats 4000000 in
theorem cs_setTrip_no {K : KX} {n : Nat} {h : MH} {h0 : MH} {m : Nat} {M : MS} (x : Ms h0 m M h) {i : Int32} (hb : b_in i 0 (gbrd M 1 - 1) = false) {sx sy ex ey : Int32} : Con K mX11_setTrip [.ref m, .int i, .int sx, .int sy, .int ex, .int ey] 0 0 n h (RetP (some (.int (0))) n (Ms h0 m (sthr M 1))) := by
  refine Con.of (by decide +kernel) (Nat.le_of_ble_eq_true rfl) ?_
  refine mj_aload_n 0 dX11_setTrip_0 rfl ?_
  refine mj_iconst (v := 0) dX11_setTrip_1 rfl ?_
  refine mS_pthr dX11_setTrip_2 fgX11_61 x (fun h x => ?_)
  refine mj_aload_n 0 dX11_setTrip_5 rfl ?_
  refine mj_iload_n 1 dX11_setTrip_6 rfl ?_
  refine mS_cV1 x [_] dX11_setTrip_7 cwX11_isDriver lkX11_87 rfl rfl rfl (cs_isDriver x) ⟨Nat.le_of_ble_eq_true rfl, Nat.le_of_ble_eq_true rfl, Nat.le_of_ble_eq_true rfl, Nat.le_of_ble_eq_true rfl, Nat.le_of_ble_eq_true rfl⟩ (fun h x => ?_)
  refine mj_if_ne 19 dX11_setTrip_10 (by decide) (fun c_10 => ?_) (fun c_10 => ?_)
  · exact absurd ((bI_n0.mp c_10).symm.trans hb) (by decide)
  · refine mj_aload_n 0 dX11_setTrip_13 rfl ?_
    refine mj_iconst (v := 1) dX11_setTrip_14 rfl ?_
    refine mS_cV1 x [_] dX11_setTrip_15 cwX11_fail lkX11_79 rfl rfl rfl (cs_fail x (v := 1)) ⟨Nat.le_of_ble_eq_true rfl, Nat.le_of_ble_eq_true rfl, Nat.le_of_ble_eq_true rfl, Nat.le_of_ble_eq_true rfl, Nat.le_of_ble_eq_true rfl⟩ (fun h x => ?_)
    exact mj_iret dX11_setTrip_18 rfl (Nat.le_of_ble_eq_true rfl) (Nat.le_of_ble_eq_true rfl) ⟨rfl, rfl, (by rw [sthr_ss] at x; exact x)⟩
set_option maxRecDepth 100000 in
set_option maxHeartbeats 4000000 in
theorem cs_setTrip_arg {K : KX} {n : Nat} {h : MH} {h0 : MH} {m : Nat} {M : MS} (x : Ms h0 m M h) {d : Nat} (hd : d < 8) (hb : b_in (nI d) 0 (gbrd M 1 - 1) = true) {sx sy ex ey : Int32} (hp : (b_pl sx sy && b_pl ex ey) = false) : Con K mX11_setTrip [.ref m, .int (nI d), .int sx, .int sy, .int ex, .int ey] 0 0 n h (RetP (some (.int (0))) n (Ms h0 m (sthr M 2))) := by
  refine Con.of (by decide +kernel) (Nat.le_of_ble_eq_true rfl) ?_
  refine mj_aload_n 0 dX11_setTrip_0 rfl ?_
  refine mj_iconst (v := 0) dX11_setTrip_1 rfl ?_
  refine mS_pthr dX11_setTrip_2 fgX11_61 x (fun h x => ?_)
  refine mj_aload_n 0 dX11_setTrip_5 rfl ?_
  refine mj_iload_n 1 dX11_setTrip_6 rfl ?_
  refine mS_cV1 x [_] dX11_setTrip_7 cwX11_isDriver lkX11_87 rfl rfl rfl (cs_isDriver x) ⟨Nat.le_of_ble_eq_true rfl, Nat.le_of_ble_eq_true rfl, Nat.le_of_ble_eq_true rfl, Nat.le_of_ble_eq_true rfl, Nat.le_of_ble_eq_true rfl⟩ (fun h x => ?_)
  refine mj_if_ne 19 dX11_setTrip_10 (by decide) (fun c_10 => ?_) (fun c_10 => ?_)
  · refine mj_iload_n 2 dX11_setTrip_19 rfl ?_
    refine mj_iload_n 3 dX11_setTrip_20 rfl ?_
    refine mj_iload 4 dX11_setTrip_21 rfl ?_
    refine mj_iload 5 dX11_setTrip_23 rfl ?_
    refine mj_cS1 [_, _, _, _] dX11_setTrip_25 cwX11_arePlaces lkX11_91 rfl (cn_X11_arePlaces _ _ _ _) ⟨Nat.le_of_ble_eq_true rfl, Nat.le_of_ble_eq_true rfl, Nat.le_of_ble_eq_true rfl, Nat.le_of_ble_eq_true rfl, Nat.le_of_ble_eq_true rfl⟩ (fun h' e' => ?_)
    subst h'
    refine mj_if_ne 37 dX11_setTrip_28 (by decide) (fun c_28 => ?_) (fun c_28 => ?_)
    · exact absurd ((bI_n0.mp c_28).symm.trans hp) (by decide)
    · refine mj_aload_n 0 dX11_setTrip_31 rfl ?_
      refine mj_iconst (v := 2) dX11_setTrip_32 rfl ?_
      refine mS_cV1 x [_] dX11_setTrip_33 cwX11_fail lkX11_79 rfl rfl rfl (cs_fail x (v := 2)) ⟨Nat.le_of_ble_eq_true rfl, Nat.le_of_ble_eq_true rfl, Nat.le_of_ble_eq_true rfl, Nat.le_of_ble_eq_true rfl, Nat.le_of_ble_eq_true rfl⟩ (fun h x => ?_)
      exact mj_iret dX11_setTrip_36 rfl (Nat.le_of_ble_eq_true rfl) (Nat.le_of_ble_eq_true rfl) ⟨rfl, rfl, (by rw [sthr_ss] at x; exact x)⟩
  · exact absurd ((bI_0.mp c_10).symm.trans hb) (by decide)
set_option maxRecDepth 100000 in
set_option maxHeartbeats 4000000 in
theorem cs_setTrip_state {K : KX} {n : Nat} {h : MH} {h0 : MH} {m : Nat} {M : MS} (x : Ms h0 m M h) {d : Nat} (hd : d < 8) (hb : b_in (nI d) 0 (gbrd M 1 - 1) = true) {sx sy ex ey : Int32} (hp : (b_pl sx sy && b_pl ex ey) = true) (hs : ¬ gd (gbrd M) d 8 = 0 ∨ 0 < gd (gbrd M) d 9) : Con K mX11_setTrip [.ref m, .int (nI d), .int sx, .int sy, .int ex, .int ey] 0 0 n h (RetP (some (.int (0))) n (Ms h0 m (sthr M 3))) := by
  refine Con.of (by decide +kernel) (Nat.le_of_ble_eq_true rfl) ?_
  refine mj_aload_n 0 dX11_setTrip_0 rfl ?_
  refine mj_iconst (v := 0) dX11_setTrip_1 rfl ?_
  refine mS_pthr dX11_setTrip_2 fgX11_61 x (fun h x => ?_)
  refine mj_aload_n 0 dX11_setTrip_5 rfl ?_
  refine mj_iload_n 1 dX11_setTrip_6 rfl ?_
  refine mS_cV1 x [_] dX11_setTrip_7 cwX11_isDriver lkX11_87 rfl rfl rfl (cs_isDriver x) ⟨Nat.le_of_ble_eq_true rfl, Nat.le_of_ble_eq_true rfl, Nat.le_of_ble_eq_true rfl, Nat.le_of_ble_eq_true rfl, Nat.le_of_ble_eq_true rfl⟩ (fun h x => ?_)
  refine mj_if_ne 19 dX11_setTrip_10 (by decide) (fun c_10 => ?_) (fun c_10 => ?_)
  · refine mj_iload_n 2 dX11_setTrip_19 rfl ?_
    refine mj_iload_n 3 dX11_setTrip_20 rfl ?_
    refine mj_iload 4 dX11_setTrip_21 rfl ?_
    refine mj_iload 5 dX11_setTrip_23 rfl ?_
    refine mj_cS1 [_, _, _, _] dX11_setTrip_25 cwX11_arePlaces lkX11_91 rfl (cn_X11_arePlaces _ _ _ _) ⟨Nat.le_of_ble_eq_true rfl, Nat.le_of_ble_eq_true rfl, Nat.le_of_ble_eq_true rfl, Nat.le_of_ble_eq_true rfl, Nat.le_of_ble_eq_true rfl⟩ (fun h' e' => ?_)
    subst h'
    refine mj_if_ne 37 dX11_setTrip_28 (by decide) (fun c_28 => ?_) (fun c_28 => ?_)
    · refine mj_aload_n 0 dX11_setTrip_37 rfl ?_
      refine mj_iload_n 1 dX11_setTrip_38 rfl ?_
      refine mS_cV1 x [_] dX11_setTrip_39 cwX11_isOpen lkX11_95 rfl rfl rfl (cs_isOpen x hd) ⟨Nat.le_of_ble_eq_true rfl, Nat.le_of_ble_eq_true rfl, Nat.le_of_ble_eq_true rfl, Nat.le_of_ble_eq_true rfl, Nat.le_of_ble_eq_true rfl⟩ (fun h x => ?_)
      refine mj_if_eq 55 dX11_setTrip_42 (by decide) (fun c_42 => ?_) (fun c_42 => ?_)
      · refine mj_aload_n 0 dX11_setTrip_55 rfl ?_
        refine mj_iconst (v := 3) dX11_setTrip_56 rfl ?_
        refine mS_cV1 x [_] dX11_setTrip_57 cwX11_fail lkX11_79 rfl rfl rfl (cs_fail x (v := 3)) ⟨Nat.le_of_ble_eq_true rfl, Nat.le_of_ble_eq_true rfl, Nat.le_of_ble_eq_true rfl, Nat.le_of_ble_eq_true rfl, Nat.le_of_ble_eq_true rfl⟩ (fun h x => ?_)
        exact mj_iret dX11_setTrip_60 rfl (Nat.le_of_ble_eq_true rfl) (Nat.le_of_ble_eq_true rfl) ⟨rfl, rfl, (by rw [sthr_ss] at x; exact x)⟩
      · refine mj_aload_n 0 dX11_setTrip_45 rfl ?_
        refine mj_iload_n 1 dX11_setTrip_46 rfl ?_
        refine mj_bipush (v := (9)) dX11_setTrip_47 rfl ?_
        refine mS_cV1 x [_, _] dX11_setTrip_49 cwX11_driver lkX11_68 rfl rfl rfl (cs_driver x (d := d) (f := 9) hd (by decide)) ⟨Nat.le_of_ble_eq_true rfl, Nat.le_of_ble_eq_true rfl, Nat.le_of_ble_eq_true rfl, Nat.le_of_ble_eq_true rfl, Nat.le_of_ble_eq_true rfl⟩ (fun h x => ?_)
        refine mj_if_le 61 dX11_setTrip_52 (by decide) (fun c_52 => ?_) (fun c_52 => ?_)
        · rcases hs with hs | hs
          · exact absurd (of_decide_eq_true (bI_n0.mp c_42)) hs
          · exact absurd c_52 (Int32.not_le.mpr hs)
        · refine mj_aload_n 0 dX11_setTrip_55 rfl ?_
          refine mj_iconst (v := 3) dX11_setTrip_56 rfl ?_
          refine mS_cV1 x [_] dX11_setTrip_57 cwX11_fail lkX11_79 rfl rfl rfl (cs_fail x (v := 3)) ⟨Nat.le_of_ble_eq_true rfl, Nat.le_of_ble_eq_true rfl, Nat.le_of_ble_eq_true rfl, Nat.le_of_ble_eq_true rfl, Nat.le_of_ble_eq_true rfl⟩ (fun h x => ?_)
          exact mj_iret dX11_setTrip_60 rfl (Nat.le_of_ble_eq_true rfl) (Nat.le_of_ble_eq_true rfl) ⟨rfl, rfl, (by rw [sthr_ss] at x; exact x)⟩
    · exact absurd ((bI_0.mp c_28).symm.trans hp) (by decide)
  · exact absurd ((bI_0.mp c_10).symm.trans hb) (by decide)
set_option maxRecDepth 100000 in
set_option maxHeartbeats 4000000 in
theorem cs_setTrip {K : KX} {n : Nat} {h : MH} {h0 : MH} {m : Nat} {M : MS} (x : Ms h0 m M h) {d : Nat} (hd : d < 8) (hb : b_in (nI d) 0 (gbrd M 1 - 1) = true) {sx sy ex ey : Int32} (hp : (b_pl sx sy && b_pl ex ey) = true) (hs : gd (gbrd M) d 8 = 0) (hs2 : gd (gbrd M) d 9 ≤ 0) : Con K mX11_setTrip [.ref m, .int (nI d), .int sx, .int sy, .int ex, .int ey] 0 0 n h (RetP (some (.int (w_dir (a_tripG (gbrd M) d sx sy ex ey) d))) n (Ms h0 m (sbrd (sthr M 0) (a_tripG (gbrd M) d sx sy ex ey)))) := by
  refine Con.of (by decide +kernel) (Nat.le_of_ble_eq_true rfl) ?_
  refine mj_aload_n 0 dX11_setTrip_0 rfl ?_
  refine mj_iconst (v := 0) dX11_setTrip_1 rfl ?_
  refine mS_pthr dX11_setTrip_2 fgX11_61 x (fun h x => ?_)
  refine mj_aload_n 0 dX11_setTrip_5 rfl ?_
  refine mj_iload_n 1 dX11_setTrip_6 rfl ?_
  refine mS_cV1 x [_] dX11_setTrip_7 cwX11_isDriver lkX11_87 rfl rfl rfl (cs_isDriver x) ⟨Nat.le_of_ble_eq_true rfl, Nat.le_of_ble_eq_true rfl, Nat.le_of_ble_eq_true rfl, Nat.le_of_ble_eq_true rfl, Nat.le_of_ble_eq_true rfl⟩ (fun h x => ?_)
  refine mj_if_ne 19 dX11_setTrip_10 (by decide) (fun c_10 => ?_) (fun c_10 => ?_)
  · refine mj_iload_n 2 dX11_setTrip_19 rfl ?_
    refine mj_iload_n 3 dX11_setTrip_20 rfl ?_
    refine mj_iload 4 dX11_setTrip_21 rfl ?_
    refine mj_iload 5 dX11_setTrip_23 rfl ?_
    refine mj_cS1 [_, _, _, _] dX11_setTrip_25 cwX11_arePlaces lkX11_91 rfl (cn_X11_arePlaces _ _ _ _) ⟨Nat.le_of_ble_eq_true rfl, Nat.le_of_ble_eq_true rfl, Nat.le_of_ble_eq_true rfl, Nat.le_of_ble_eq_true rfl, Nat.le_of_ble_eq_true rfl⟩ (fun h' e' => ?_)
    subst h'
    refine mj_if_ne 37 dX11_setTrip_28 (by decide) (fun c_28 => ?_) (fun c_28 => ?_)
    · refine mj_aload_n 0 dX11_setTrip_37 rfl ?_
      refine mj_iload_n 1 dX11_setTrip_38 rfl ?_
      refine mS_cV1 x [_] dX11_setTrip_39 cwX11_isOpen lkX11_95 rfl rfl rfl (cs_isOpen x hd) ⟨Nat.le_of_ble_eq_true rfl, Nat.le_of_ble_eq_true rfl, Nat.le_of_ble_eq_true rfl, Nat.le_of_ble_eq_true rfl, Nat.le_of_ble_eq_true rfl⟩ (fun h x => ?_)
      refine mj_if_eq 55 dX11_setTrip_42 (by decide) (fun c_42 => ?_) (fun c_42 => ?_)
      · exact absurd hs (of_decide_eq_false (bI_0.mp c_42))
      · refine mj_aload_n 0 dX11_setTrip_45 rfl ?_
        refine mj_iload_n 1 dX11_setTrip_46 rfl ?_
        refine mj_bipush (v := (9)) dX11_setTrip_47 rfl ?_
        refine mS_cV1 x [_, _] dX11_setTrip_49 cwX11_driver lkX11_68 rfl rfl rfl (cs_driver x (d := d) (f := 9) hd (by decide)) ⟨Nat.le_of_ble_eq_true rfl, Nat.le_of_ble_eq_true rfl, Nat.le_of_ble_eq_true rfl, Nat.le_of_ble_eq_true rfl, Nat.le_of_ble_eq_true rfl⟩ (fun h x => ?_)
        refine mj_if_le 61 dX11_setTrip_52 (by decide) (fun c_52 => ?_) (fun c_52 => ?_)
        · refine mj_aload_n 0 dX11_setTrip_61 rfl ?_
          refine mj_iload_n 1 dX11_setTrip_62 rfl ?_
          refine mj_iload_n 2 dX11_setTrip_63 rfl ?_
          refine mj_iload_n 3 dX11_setTrip_64 rfl ?_
          refine mj_iload 4 dX11_setTrip_65 rfl ?_
          refine mj_iload 5 dX11_setTrip_67 rfl ?_
          refine mS_cV0 x [_, _, _, _, _] dX11_setTrip_69 cwX11_placeTrip lkX11_98 rfl rfl rfl (cs_placeTrip x hd) ⟨Nat.le_of_ble_eq_true rfl, Nat.le_of_ble_eq_true rfl, Nat.le_of_ble_eq_true rfl, Nat.le_of_ble_eq_true rfl, Nat.le_of_ble_eq_true rfl⟩ (fun h x => ?_)
          refine mj_aload_n 0 dX11_setTrip_72 rfl ?_
          refine mj_iload_n 1 dX11_setTrip_73 rfl ?_
          refine mS_cV1 x [_] dX11_setTrip_74 cwX11_directLength lkX11_102 rfl rfl rfl (cs_directLength x hd) ⟨Nat.le_of_ble_eq_true rfl, Nat.le_of_ble_eq_true rfl, Nat.le_of_ble_eq_true rfl, Nat.le_of_ble_eq_true rfl, Nat.le_of_ble_eq_true rfl⟩ (fun h x => ?_)
          exact mj_iret dX11_setTrip_77 rfl (Nat.le_of_ble_eq_true rfl) (Nat.le_of_ble_eq_true rfl) ⟨rfl, rfl, x⟩
        · exact absurd hs2 c_52
    · exact absurd ((bI_0.mp c_28).symm.trans hp) (by decide)
  · exact absurd ((bI_0.mp c_10).symm.trans hb) (by decide)
def a_rdrG (g : Nat → Int32) (r : Nat) (fx fy tx ty rd dl : Int32) : Nat → Int32 := upd (upd (upd (upd (upd (upd (upd (upd g (408 + 8 * r + 0) fx) (408 + 8 * r + 1) fy) (408 + 8 * r + 2) tx) (408 + 8 * r + 3) ty) (408 + 8 * r + 4) rd) (408 + 8 * r + 5) dl) (408 + 8 * r + 6) 0) (408 + 8 * r + 7) (-1)
def a_rdr (M : MS) (r : Nat) (fx fy tx ty rd dl : Int32) : MS := sbrd (scrd (sbrd M (a_rdrG (gbrd M) r fx fy tx ty rd dl)) (vp_updL (gcrd M) (8 + r) 0)) (upd (a_rdrG (gbrd M) r fx fy tx ty rd dl) 2 (nI (r + 1)))
theorem a_rdrG_2 (g : Nat → Int32) (r : Nat) (fx fy tx ty rd dl : Int32) : a_rdrG g r fx fy tx ty rd dl 2 = g 2 := by
  unfold a_rdrG upd
  simp only [show ∀ f, f < 8 → ¬ (2 : Nat) = 408 + 8 * r + f from fun f _ => by omega, show ¬ (2 : Nat) = 408 + 8 * r + 0 by omega, show ¬ (2 : Nat) = 408 + 8 * r + 1 by omega, show ¬ (2 : Nat) = 408 + 8 * r + 2 by omega, show ¬ (2 : Nat) = 408 + 8 * r + 3 by omega, show ¬ (2 : Nat) = 408 + 8 * r + 4 by omega, show ¬ (2 : Nat) = 408 + 8 * r + 5 by omega, show ¬ (2 : Nat) = 408 + 8 * r + 6 by omega, show ¬ (2 : Nat) = 408 + 8 * r + 7 by omega, if_false]
set_option maxRecDepth 100000 in
set_option maxHeartbeats 4000000 in
theorem cs_appendRider {K : KX} {n : Nat} {h : MH} {h0 : MH} {m : Nat} {M : MS} (x : Ms h0 m M h) {r : Nat} {fx fy tx ty rd dl : Int32} (hr : r < 20) (hn : gbrd M 2 = nI r) : Con K mX11_appendRider [.ref m, .int fx, .int fy, .int tx, .int ty, .int rd, .int dl] 0 0 n h (RetP (some (.int (nI r))) n (Ms h0 m (a_rdr M r fx fy tx ty rd dl))) := by
  refine Con.of (by decide +kernel) (Nat.le_of_ble_eq_true rfl) ?_
  refine mj_aload_n 0 dX11_appendRider_0 rfl ?_
  refine mS_gbrd dX11_appendRider_1 fgX11_7 x ?_
  refine mj_iconst (v := 2) dX11_appendRider_4 rfl ?_
  refine mS_lbrd x ((show (2 : Int32).toInt = ((2 : Nat) : Int) from rfl)) (by first | assumption | omega | decide) dX11_appendRider_5 ?_
  refine mj_eq (hn) ?_
  refine mj_istore (ls' := [(7, _), (0, _), (1, _), (2, _), (3, _), (4, _), (5, _), (6, _)]) dX11_appendRider_6 (Nat.le_of_ble_eq_true rfl) rfl ?_
  refine mj_aload_n 1 dX11_appendRider_8 rfl ?_
  refine mj_iload 0 dX11_appendRider_9 rfl ?_
  refine mj_iconst (v := 0) dX11_appendRider_11 rfl ?_
  refine mj_iload_n 2 dX11_appendRider_12 rfl ?_
  refine mS_cV0 x [_, _, _] dX11_appendRider_13 cwX11_setRider lkX11_105 rfl rfl rfl (cs_setRider x (r := r) (f := 0) (v := fx) hr (by decide)) ⟨Nat.le_of_ble_eq_true rfl, Nat.le_of_ble_eq_true rfl, Nat.le_of_ble_eq_true rfl, Nat.le_of_ble_eq_true rfl, Nat.le_of_ble_eq_true rfl⟩ (fun h x => ?_)
  refine mj_aload_n 1 dX11_appendRider_16 rfl ?_
  refine mj_iload 0 dX11_appendRider_17 rfl ?_
  refine mj_iconst (v := 1) dX11_appendRider_19 rfl ?_
  refine mj_iload_n 3 dX11_appendRider_20 rfl ?_
  refine mS_cV0 x [_, _, _] dX11_appendRider_21 cwX11_setRider lkX11_105 rfl rfl rfl (cs_setRider x (r := r) (f := 1) (v := fy) hr (by decide)) ⟨Nat.le_of_ble_eq_true rfl, Nat.le_of_ble_eq_true rfl, Nat.le_of_ble_eq_true rfl, Nat.le_of_ble_eq_true rfl, Nat.le_of_ble_eq_true rfl⟩ (fun h x => ?_)
  rw [show wR M r 0 fx = sbrd M (upd (gbrd M) (408 + 8 * r + 0) fx) from rfl, wR_ss] at x
  refine mj_aload_n 1 dX11_appendRider_24 rfl ?_
  refine mj_iload 0 dX11_appendRider_25 rfl ?_
  refine mj_iconst (v := 2) dX11_appendRider_27 rfl ?_
  refine mj_iload_n 4 dX11_appendRider_28 rfl ?_
  refine mS_cV0 x [_, _, _] dX11_appendRider_29 cwX11_setRider lkX11_105 rfl rfl rfl (cs_setRider x (r := r) (f := 2) (v := tx) hr (by decide)) ⟨Nat.le_of_ble_eq_true rfl, Nat.le_of_ble_eq_true rfl, Nat.le_of_ble_eq_true rfl, Nat.le_of_ble_eq_true rfl, Nat.le_of_ble_eq_true rfl⟩ (fun h x => ?_)
  rw [wR_ss] at x
  refine mj_aload_n 1 dX11_appendRider_32 rfl ?_
  refine mj_iload 0 dX11_appendRider_33 rfl ?_
  refine mj_iconst (v := 3) dX11_appendRider_35 rfl ?_
  refine mj_iload 5 dX11_appendRider_36 rfl ?_
  refine mS_cV0 x [_, _, _] dX11_appendRider_38 cwX11_setRider lkX11_105 rfl rfl rfl (cs_setRider x (r := r) (f := 3) (v := ty) hr (by decide)) ⟨Nat.le_of_ble_eq_true rfl, Nat.le_of_ble_eq_true rfl, Nat.le_of_ble_eq_true rfl, Nat.le_of_ble_eq_true rfl, Nat.le_of_ble_eq_true rfl⟩ (fun h x => ?_)
  rw [wR_ss] at x
  refine mj_aload_n 1 dX11_appendRider_41 rfl ?_
  refine mj_iload 0 dX11_appendRider_42 rfl ?_
  refine mj_iconst (v := 4) dX11_appendRider_44 rfl ?_
  refine mj_iload 6 dX11_appendRider_45 rfl ?_
  refine mS_cV0 x [_, _, _] dX11_appendRider_47 cwX11_setRider lkX11_105 rfl rfl rfl (cs_setRider x (r := r) (f := 4) (v := rd) hr (by decide)) ⟨Nat.le_of_ble_eq_true rfl, Nat.le_of_ble_eq_true rfl, Nat.le_of_ble_eq_true rfl, Nat.le_of_ble_eq_true rfl, Nat.le_of_ble_eq_true rfl⟩ (fun h x => ?_)
  rw [wR_ss] at x
  refine mj_aload_n 1 dX11_appendRider_50 rfl ?_
  refine mj_iload 0 dX11_appendRider_51 rfl ?_
  refine mj_iconst (v := 5) dX11_appendRider_53 rfl ?_
  refine mj_iload 7 dX11_appendRider_54 rfl ?_
  refine mS_cV0 x [_, _, _] dX11_appendRider_56 cwX11_setRider lkX11_105 rfl rfl rfl (cs_setRider x (r := r) (f := 5) (v := dl) hr (by decide)) ⟨Nat.le_of_ble_eq_true rfl, Nat.le_of_ble_eq_true rfl, Nat.le_of_ble_eq_true rfl, Nat.le_of_ble_eq_true rfl, Nat.le_of_ble_eq_true rfl⟩ (fun h x => ?_)
  rw [wR_ss] at x
  refine mj_aload_n 1 dX11_appendRider_59 rfl ?_
  refine mj_iload 0 dX11_appendRider_60 rfl ?_
  refine mj_bipush (v := (6)) dX11_appendRider_62 rfl ?_
  refine mj_iconst (v := 0) dX11_appendRider_64 rfl ?_
  refine mS_cV0 x [_, _, _] dX11_appendRider_65 cwX11_setRider lkX11_105 rfl rfl rfl (cs_setRider x (r := r) (f := 6) (v := 0) hr (by decide)) ⟨Nat.le_of_ble_eq_true rfl, Nat.le_of_ble_eq_true rfl, Nat.le_of_ble_eq_true rfl, Nat.le_of_ble_eq_true rfl, Nat.le_of_ble_eq_true rfl⟩ (fun h x => ?_)
  rw [wR_ss] at x
  refine mj_aload_n 1 dX11_appendRider_68 rfl ?_
  refine mj_iload 0 dX11_appendRider_69 rfl ?_
  refine mj_bipush (v := (7)) dX11_appendRider_71 rfl ?_
  refine mj_iconst (v := (-1)) dX11_appendRider_73 rfl ?_
  refine mS_cV0 x [_, _, _] dX11_appendRider_74 cwX11_setRider lkX11_105 rfl rfl rfl (cs_setRider x (r := r) (f := 7) (v := (-1)) hr (by decide)) ⟨Nat.le_of_ble_eq_true rfl, Nat.le_of_ble_eq_true rfl, Nat.le_of_ble_eq_true rfl, Nat.le_of_ble_eq_true rfl, Nat.le_of_ble_eq_true rfl⟩ (fun h x => ?_)
  rw [wR_ss] at x
  have x : Ms h0 m (sbrd M (a_rdrG (gbrd M) r fx fy tx ty rd dl)) h := x
  refine mj_aload_n 1 dX11_appendRider_77 rfl ?_
  refine mS_gcrd dX11_appendRider_78 fgX11_19 x ?_
  refine mj_bipush (v := (8)) dX11_appendRider_81 rfl ?_
  refine mj_iload 0 dX11_appendRider_83 rfl ?_
  refine mj_iadd dX11_appendRider_85 ?_
  refine mj_lconst (v := 0) dX11_appendRider_86 rfl ?_
  refine mS_acrd x (ix_crd (by omega)) (by first | assumption | omega | decide) dX11_appendRider_87 (fun h x => ?_)
  refine mj_aload_n 1 dX11_appendRider_88 rfl ?_
  refine mS_gbrd dX11_appendRider_89 fgX11_7 x ?_
  refine mj_iconst (v := 2) dX11_appendRider_92 rfl ?_
  refine mj_dup2 dX11_appendRider_93 rfl rfl ?_
  refine mS_lbrd x ((show (2 : Int32).toInt = ((2 : Nat) : Int) from rfl)) (by first | assumption | omega | decide) dX11_appendRider_94 ?_
  refine mj_eq ((a_rdrG_2 (gbrd M) r fx fy tx ty rd dl).trans hn) ?_
  refine mj_iconst (v := 1) dX11_appendRider_95 rfl ?_
  refine mj_iadd dX11_appendRider_96 ?_
  refine mj_eq (nI_1 _) ?_
  refine mS_abrd x ((show (2 : Int32).toInt = ((2 : Nat) : Int) from rfl)) (by first | assumption | omega | decide) dX11_appendRider_97 (fun h x => ?_)
  refine mj_iload 0 dX11_appendRider_98 rfl ?_
  exact mj_iret dX11_appendRider_100 rfl (Nat.le_of_ble_eq_true rfl) (Nat.le_of_ble_eq_true rfl) ⟨rfl, rfl, x⟩
set_option maxRecDepth 100000 in
set_option maxHeartbeats 4000000 in
theorem cs_addRider_arg {K : KX} {n : Nat} {h : MH} {h0 : MH} {m : Nat} {M : MS} (x : Ms h0 m M h) {fx fy tx ty rd dl : Int32} (hb : (b_pl fx fy && b_pl tx ty && b_in rd 0 1439 && b_in dl 0 9999) = false) : Con K mX11_addRider [.ref m, .int fx, .int fy, .int tx, .int ty, .int rd, .int dl] 0 0 n h (RetP (some (.int (0))) n (Ms h0 m (sthr M 1))) := by
  refine Con.of (by decide +kernel) (Nat.le_of_ble_eq_true rfl) ?_
  refine mj_aload_n 0 dX11_addRider_0 rfl ?_
  refine mj_iconst (v := 0) dX11_addRider_1 rfl ?_
  refine mS_pthr dX11_addRider_2 fgX11_61 x (fun h x => ?_)
  refine mj_iload_n 1 dX11_addRider_5 rfl ?_
  refine mj_iload_n 2 dX11_addRider_6 rfl ?_
  refine mj_iload_n 3 dX11_addRider_7 rfl ?_
  refine mj_iload 4 dX11_addRider_8 rfl ?_
  refine mj_cS1 [_, _, _, _] dX11_addRider_10 cwX11_arePlaces lkX11_91 rfl (cn_X11_arePlaces _ _ _ _) ⟨Nat.le_of_ble_eq_true rfl, Nat.le_of_ble_eq_true rfl, Nat.le_of_ble_eq_true rfl, Nat.le_of_ble_eq_true rfl, Nat.le_of_ble_eq_true rfl⟩ (fun h' e' => ?_)
  subst h'
  refine mj_if_eq 40 dX11_addRider_13 (by decide) (fun c_13 => ?_) (fun c_13 => ?_)
  · have z0 := bI_0.mp c_13
    refine mj_aload_n 0 dX11_addRider_40 rfl ?_
    refine mj_iconst (v := 1) dX11_addRider_41 rfl ?_
    refine mS_cV1 x [_] dX11_addRider_42 cwX11_fail lkX11_79 rfl rfl rfl (cs_fail x (v := 1)) ⟨Nat.le_of_ble_eq_true rfl, Nat.le_of_ble_eq_true rfl, Nat.le_of_ble_eq_true rfl, Nat.le_of_ble_eq_true rfl, Nat.le_of_ble_eq_true rfl⟩ (fun h x => ?_)
    exact mj_iret dX11_addRider_45 rfl (Nat.le_of_ble_eq_true rfl) (Nat.le_of_ble_eq_true rfl) ⟨rfl, rfl, (by rw [sthr_ss] at x; exact x)⟩
  · have z0 := bI_n0.mp c_13
    refine mj_iload 5 dX11_addRider_16 rfl ?_
    refine mj_iconst (v := 0) dX11_addRider_18 rfl ?_
    refine mj_sipush (v := (1439)) dX11_addRider_19 rfl ?_
    refine mj_cS1 [_, _, _] dX11_addRider_22 cwX11_isBetween lkX11_64 rfl (cn_X11_isBetween _ _ _) ⟨Nat.le_of_ble_eq_true rfl, Nat.le_of_ble_eq_true rfl, Nat.le_of_ble_eq_true rfl, Nat.le_of_ble_eq_true rfl, Nat.le_of_ble_eq_true rfl⟩ (fun h' e' => ?_)
    subst h'
    refine mj_if_eq 40 dX11_addRider_25 (by decide) (fun c_25 => ?_) (fun c_25 => ?_)
    · have z1 := bI_0.mp c_25
      refine mj_aload_n 0 dX11_addRider_40 rfl ?_
      refine mj_iconst (v := 1) dX11_addRider_41 rfl ?_
      refine mS_cV1 x [_] dX11_addRider_42 cwX11_fail lkX11_79 rfl rfl rfl (cs_fail x (v := 1)) ⟨Nat.le_of_ble_eq_true rfl, Nat.le_of_ble_eq_true rfl, Nat.le_of_ble_eq_true rfl, Nat.le_of_ble_eq_true rfl, Nat.le_of_ble_eq_true rfl⟩ (fun h x => ?_)
      exact mj_iret dX11_addRider_45 rfl (Nat.le_of_ble_eq_true rfl) (Nat.le_of_ble_eq_true rfl) ⟨rfl, rfl, (by rw [sthr_ss] at x; exact x)⟩
    · have z1 := bI_n0.mp c_25
      refine mj_iload 6 dX11_addRider_28 rfl ?_
      refine mj_iconst (v := 0) dX11_addRider_30 rfl ?_
      refine mj_sipush (v := (9999)) dX11_addRider_31 rfl ?_
      refine mj_cS1 [_, _, _] dX11_addRider_34 cwX11_isBetween lkX11_64 rfl (cn_X11_isBetween _ _ _) ⟨Nat.le_of_ble_eq_true rfl, Nat.le_of_ble_eq_true rfl, Nat.le_of_ble_eq_true rfl, Nat.le_of_ble_eq_true rfl, Nat.le_of_ble_eq_true rfl⟩ (fun h' e' => ?_)
      subst h'
      refine mj_if_ne 46 dX11_addRider_37 (by decide) (fun c_37 => ?_) (fun c_37 => ?_)
      · simp [(Bool.and_eq_true _ _).mp z0, z1, bI_n0.mp c_37] at hb
      · refine mj_aload_n 0 dX11_addRider_40 rfl ?_
        refine mj_iconst (v := 1) dX11_addRider_41 rfl ?_
        refine mS_cV1 x [_] dX11_addRider_42 cwX11_fail lkX11_79 rfl rfl rfl (cs_fail x (v := 1)) ⟨Nat.le_of_ble_eq_true rfl, Nat.le_of_ble_eq_true rfl, Nat.le_of_ble_eq_true rfl, Nat.le_of_ble_eq_true rfl, Nat.le_of_ble_eq_true rfl⟩ (fun h x => ?_)
        exact mj_iret dX11_addRider_45 rfl (Nat.le_of_ble_eq_true rfl) (Nat.le_of_ble_eq_true rfl) ⟨rfl, rfl, (by rw [sthr_ss] at x; exact x)⟩
set_option maxRecDepth 100000 in
set_option maxHeartbeats 4000000 in
theorem cs_addRider_full {K : KX} {n : Nat} {h : MH} {h0 : MH} {m : Nat} {M : MS} (x : Ms h0 m M h) {fx fy tx ty rd dl : Int32} (hb : (b_pl fx fy && b_pl tx ty && b_in rd 0 1439 && b_in dl 0 9999) = true) (hf : gbrd M 2 = 20) : Con K mX11_addRider [.ref m, .int fx, .int fy, .int tx, .int ty, .int rd, .int dl] 0 0 n h (RetP (some (.int (0))) n (Ms h0 m (sthr M 2))) := by
  refine Con.of (by decide +kernel) (Nat.le_of_ble_eq_true rfl) ?_
  simp only [Bool.and_eq_true] at hb
  obtain ⟨⟨⟨q0, q0b⟩, q1⟩, q2⟩ := hb
  have q0 : (b_pl fx fy && b_pl tx ty) = true := by rw [q0, q0b]; rfl
  refine mj_aload_n 0 dX11_addRider_0 rfl ?_
  refine mj_iconst (v := 0) dX11_addRider_1 rfl ?_
  refine mS_pthr dX11_addRider_2 fgX11_61 x (fun h x => ?_)
  refine mj_iload_n 1 dX11_addRider_5 rfl ?_
  refine mj_iload_n 2 dX11_addRider_6 rfl ?_
  refine mj_iload_n 3 dX11_addRider_7 rfl ?_
  refine mj_iload 4 dX11_addRider_8 rfl ?_
  refine mj_cS1 [_, _, _, _] dX11_addRider_10 cwX11_arePlaces lkX11_91 rfl (cn_X11_arePlaces _ _ _ _) ⟨Nat.le_of_ble_eq_true rfl, Nat.le_of_ble_eq_true rfl, Nat.le_of_ble_eq_true rfl, Nat.le_of_ble_eq_true rfl, Nat.le_of_ble_eq_true rfl⟩ (fun h' e' => ?_)
  subst h'
  refine mj_if_eq 40 dX11_addRider_13 (by decide) (fun c_13 => ?_) (fun c_13 => ?_)
  · exact absurd ((bI_0.mp c_13).symm.trans q0) (by decide)
  · refine mj_iload 5 dX11_addRider_16 rfl ?_
    refine mj_iconst (v := 0) dX11_addRider_18 rfl ?_
    refine mj_sipush (v := (1439)) dX11_addRider_19 rfl ?_
    refine mj_cS1 [_, _, _] dX11_addRider_22 cwX11_isBetween lkX11_64 rfl (cn_X11_isBetween _ _ _) ⟨Nat.le_of_ble_eq_true rfl, Nat.le_of_ble_eq_true rfl, Nat.le_of_ble_eq_true rfl, Nat.le_of_ble_eq_true rfl, Nat.le_of_ble_eq_true rfl⟩ (fun h' e' => ?_)
    subst h'
    refine mj_if_eq 40 dX11_addRider_25 (by decide) (fun c_25 => ?_) (fun c_25 => ?_)
    · exact absurd ((bI_0.mp c_25).symm.trans q1) (by decide)
    · refine mj_iload 6 dX11_addRider_28 rfl ?_
      refine mj_iconst (v := 0) dX11_addRider_30 rfl ?_
      refine mj_sipush (v := (9999)) dX11_addRider_31 rfl ?_
      refine mj_cS1 [_, _, _] dX11_addRider_34 cwX11_isBetween lkX11_64 rfl (cn_X11_isBetween _ _ _) ⟨Nat.le_of_ble_eq_true rfl, Nat.le_of_ble_eq_true rfl, Nat.le_of_ble_eq_true rfl, Nat.le_of_ble_eq_true rfl, Nat.le_of_ble_eq_true rfl⟩ (fun h' e' => ?_)
      subst h'
      refine mj_if_ne 46 dX11_addRider_37 (by decide) (fun c_37 => ?_) (fun c_37 => ?_)
      · refine mj_aload_n 0 dX11_addRider_46 rfl ?_
        refine mS_gbrd dX11_addRider_47 fgX11_7 x ?_
        refine mj_iconst (v := 2) dX11_addRider_50 rfl ?_
        refine mS_lbrd x ((show (2 : Int32).toInt = ((2 : Nat) : Int) from rfl)) (by first | assumption | omega | decide) dX11_addRider_51 ?_
        refine mj_bipush (v := (20)) dX11_addRider_52 rfl ?_
        refine mj_icmp_ne 65 dX11_addRider_54 (by decide) (fun c_54 => ?_) (fun c_54 => ?_)
        · exact absurd hf c_54
        · refine mj_aload_n 0 dX11_addRider_57 rfl ?_
          refine mj_iconst (v := 2) dX11_addRider_58 rfl ?_
          refine mS_cV1 x [_] dX11_addRider_59 cwX11_fail lkX11_79 rfl rfl rfl (cs_fail x (v := 2)) ⟨Nat.le_of_ble_eq_true rfl, Nat.le_of_ble_eq_true rfl, Nat.le_of_ble_eq_true rfl, Nat.le_of_ble_eq_true rfl, Nat.le_of_ble_eq_true rfl⟩ (fun h x => ?_)
          refine mj_goto 78 dX11_addRider_62 (by decide) ?_
          exact mj_iret dX11_addRider_78 rfl (Nat.le_of_ble_eq_true rfl) (Nat.le_of_ble_eq_true rfl) ⟨rfl, rfl, (by rw [sthr_ss] at x; exact x)⟩
      · exact absurd ((bI_0.mp c_37).symm.trans q2) (by decide)
set_option maxRecDepth 100000 in
set_option maxHeartbeats 4000000 in
theorem cs_addRider {K : KX} {n : Nat} {h : MH} {h0 : MH} {m : Nat} {M : MS} (x : Ms h0 m M h) {fx fy tx ty rd dl : Int32} (hb : (b_pl fx fy && b_pl tx ty && b_in rd 0 1439 && b_in dl 0 9999) = true) {r : Nat} (hr : r < 20) (hn : gbrd M 2 = nI r) : Con K mX11_addRider [.ref m, .int fx, .int fy, .int tx, .int ty, .int rd, .int dl] 0 0 n h (RetP (some (.int (nI r))) n (Ms h0 m (a_rdr (sthr M 0) r fx fy tx ty rd dl))) := by
  refine Con.of (by decide +kernel) (Nat.le_of_ble_eq_true rfl) ?_
  simp only [Bool.and_eq_true] at hb
  obtain ⟨⟨⟨q0, q0b⟩, q1⟩, q2⟩ := hb
  have q0 : (b_pl fx fy && b_pl tx ty) = true := by rw [q0, q0b]; rfl
  refine mj_aload_n 0 dX11_addRider_0 rfl ?_
  refine mj_iconst (v := 0) dX11_addRider_1 rfl ?_
  refine mS_pthr dX11_addRider_2 fgX11_61 x (fun h x => ?_)
  refine mj_iload_n 1 dX11_addRider_5 rfl ?_
  refine mj_iload_n 2 dX11_addRider_6 rfl ?_
  refine mj_iload_n 3 dX11_addRider_7 rfl ?_
  refine mj_iload 4 dX11_addRider_8 rfl ?_
  refine mj_cS1 [_, _, _, _] dX11_addRider_10 cwX11_arePlaces lkX11_91 rfl (cn_X11_arePlaces _ _ _ _) ⟨Nat.le_of_ble_eq_true rfl, Nat.le_of_ble_eq_true rfl, Nat.le_of_ble_eq_true rfl, Nat.le_of_ble_eq_true rfl, Nat.le_of_ble_eq_true rfl⟩ (fun h' e' => ?_)
  subst h'
  refine mj_if_eq 40 dX11_addRider_13 (by decide) (fun c_13 => ?_) (fun c_13 => ?_)
  · exact absurd ((bI_0.mp c_13).symm.trans q0) (by decide)
  · refine mj_iload 5 dX11_addRider_16 rfl ?_
    refine mj_iconst (v := 0) dX11_addRider_18 rfl ?_
    refine mj_sipush (v := (1439)) dX11_addRider_19 rfl ?_
    refine mj_cS1 [_, _, _] dX11_addRider_22 cwX11_isBetween lkX11_64 rfl (cn_X11_isBetween _ _ _) ⟨Nat.le_of_ble_eq_true rfl, Nat.le_of_ble_eq_true rfl, Nat.le_of_ble_eq_true rfl, Nat.le_of_ble_eq_true rfl, Nat.le_of_ble_eq_true rfl⟩ (fun h' e' => ?_)
    subst h'
    refine mj_if_eq 40 dX11_addRider_25 (by decide) (fun c_25 => ?_) (fun c_25 => ?_)
    · exact absurd ((bI_0.mp c_25).symm.trans q1) (by decide)
    · refine mj_iload 6 dX11_addRider_28 rfl ?_
      refine mj_iconst (v := 0) dX11_addRider_30 rfl ?_
      refine mj_sipush (v := (9999)) dX11_addRider_31 rfl ?_
      refine mj_cS1 [_, _, _] dX11_addRider_34 cwX11_isBetween lkX11_64 rfl (cn_X11_isBetween _ _ _) ⟨Nat.le_of_ble_eq_true rfl, Nat.le_of_ble_eq_true rfl, Nat.le_of_ble_eq_true rfl, Nat.le_of_ble_eq_true rfl, Nat.le_of_ble_eq_true rfl⟩ (fun h' e' => ?_)
      subst h'
      refine mj_if_ne 46 dX11_addRider_37 (by decide) (fun c_37 => ?_) (fun c_37 => ?_)
      · refine mj_aload_n 0 dX11_addRider_46 rfl ?_
        refine mS_gbrd dX11_addRider_47 fgX11_7 x ?_
        refine mj_iconst (v := 2) dX11_addRider_50 rfl ?_
        refine mS_lbrd x ((show (2 : Int32).toInt = ((2 : Nat) : Int) from rfl)) (by first | assumption | omega | decide) dX11_addRider_51 ?_
        refine mj_bipush (v := (20)) dX11_addRider_52 rfl ?_
        refine mj_icmp_ne 65 dX11_addRider_54 (by decide) (fun c_54 => ?_) (fun c_54 => ?_)
        · refine mj_aload_n 0 dX11_addRider_65 rfl ?_
          refine mj_iload_n 1 dX11_addRider_66 rfl ?_
          refine mj_iload_n 2 dX11_addRider_67 rfl ?_
          refine mj_iload_n 3 dX11_addRider_68 rfl ?_
          refine mj_iload 4 dX11_addRider_69 rfl ?_
          refine mj_iload 5 dX11_addRider_71 rfl ?_
          refine mj_iload 6 dX11_addRider_73 rfl ?_
          refine mS_cV1 x [_, _, _, _, _, _] dX11_addRider_75 cwX11_appendRider lkX11_108 rfl rfl rfl (cs_appendRider x hr hn) ⟨Nat.le_of_ble_eq_true rfl, Nat.le_of_ble_eq_true rfl, Nat.le_of_ble_eq_true rfl, Nat.le_of_ble_eq_true rfl, Nat.le_of_ble_eq_true rfl⟩ (fun h x => ?_)
          exact mj_iret dX11_addRider_78 rfl (Nat.le_of_ble_eq_true rfl) (Nat.le_of_ble_eq_true rfl) ⟨rfl, rfl, x⟩
        · exact absurd ((nI_inj (by omega) (by omega)).mp ((show nI 20 = gbrd M 2 from c_54.symm).trans hn)) (by omega)
      · exact absurd ((bI_0.mp c_37).symm.trans q2) (by decide)
set_option maxRecDepth 100000 in
set_option maxHeartbeats 4000000 in
theorem cs_driverCount {K : KX} {n : Nat} {h : MH} {h0 : MH} {m : Nat} {M : MS} (x : Ms h0 m M h)  : Con K mX11_driverCount [.ref m] 0 0 n h (RetP (some (.int (gbrd M 1))) n (Ms h0 m (sthr M 0))) := by
  refine Con.of (by decide +kernel) (Nat.le_of_ble_eq_true rfl) ?_
  refine mj_aload_n 0 dX11_driverCount_0 rfl ?_
  refine mj_iconst (v := 0) dX11_driverCount_1 rfl ?_
  refine mS_pthr dX11_driverCount_2 fgX11_61 x (fun h x => ?_)
  refine mj_aload_n 0 dX11_driverCount_5 rfl ?_
  refine mS_gbrd dX11_driverCount_6 fgX11_7 x ?_
  refine mj_iconst (v := 1) dX11_driverCount_9 rfl ?_
  refine mS_lbrd x ((show (1 : Int32).toInt = ((1 : Nat) : Int) from rfl)) (by first | assumption | omega | decide) dX11_driverCount_10 ?_
  exact mj_iret dX11_driverCount_11 rfl (Nat.le_of_ble_eq_true rfl) (Nat.le_of_ble_eq_true rfl) ⟨rfl, rfl, x⟩
set_option maxRecDepth 100000 in
set_option maxHeartbeats 4000000 in
theorem cs_riderCount {K : KX} {n : Nat} {h : MH} {h0 : MH} {m : Nat} {M : MS} (x : Ms h0 m M h)  : Con K mX11_riderCount [.ref m] 0 0 n h (RetP (some (.int (gbrd M 2))) n (Ms h0 m (sthr M 0))) := by
  refine Con.of (by decide +kernel) (Nat.le_of_ble_eq_true rfl) ?_
  refine mj_aload_n 0 dX11_riderCount_0 rfl ?_
  refine mj_iconst (v := 0) dX11_riderCount_1 rfl ?_
  refine mS_pthr dX11_riderCount_2 fgX11_61 x (fun h x => ?_)
  refine mj_aload_n 0 dX11_riderCount_5 rfl ?_
  refine mS_gbrd dX11_riderCount_6 fgX11_7 x ?_
  refine mj_iconst (v := 2) dX11_riderCount_9 rfl ?_
  refine mS_lbrd x ((show (2 : Int32).toInt = ((2 : Nat) : Int) from rfl)) (by first | assumption | omega | decide) dX11_riderCount_10 ?_
  exact mj_iret dX11_riderCount_11 rfl (Nat.le_of_ble_eq_true rfl) (Nat.le_of_ble_eq_true rfl) ⟨rfl, rfl, x⟩
set_option maxRecDepth 100000 in
set_option maxHeartbeats 4000000 in
theorem cs_isDone_no {K : KX} {n : Nat} {h : MH} {h0 : MH} {m : Nat} {M : MS} (x : Ms h0 m M h) {i : Int32} (hb : b_in i 0 (gbrd M 1 - 1) = false) : Con K mX11_isDone [.ref m, .int i] 0 0 n h (RetP (some (.int (0))) n (Ms h0 m (sthr M 1))) := by
  refine Con.of (by decide +kernel) (Nat.le_of_ble_eq_true rfl) ?_
  refine mj_aload_n 0 dX11_isDone_0 rfl ?_
  refine mj_aload_n 0 dX11_isDone_1 rfl ?_
  refine mj_iload_n 1 dX11_isDone_2 rfl ?_
  refine mS_cV1 x [_] dX11_isDone_3 cwX11_isDriver lkX11_87 rfl rfl rfl (cs_isDriver x) ⟨Nat.le_of_ble_eq_true rfl, Nat.le_of_ble_eq_true rfl, Nat.le_of_ble_eq_true rfl, Nat.le_of_ble_eq_true rfl, Nat.le_of_ble_eq_true rfl⟩ (fun h x => ?_)
  refine mj_if_eq 13 dX11_isDone_6 (by decide) (fun c_6 => ?_) (fun c_6 => ?_)
  · refine mj_iconst (v := 1) dX11_isDone_13 rfl ?_
    refine mS_pthr dX11_isDone_14 fgX11_61 x (fun h x => ?_)
    refine mj_aload_n 0 dX11_isDone_17 rfl ?_
    refine mS_gthr dX11_isDone_18 fgX11_61 x ?_
    refine mj_if_ne 36 dX11_isDone_21 (by decide) (fun c_21 => ?_) (fun c_21 => ?_)
    · refine mj_iconst (v := 0) dX11_isDone_36 rfl ?_
      exact mj_zret dX11_isDone_37 rfl (by first | exact Or.inl rfl | exact Or.inr rfl) (Nat.le_of_ble_eq_true rfl) (Nat.le_of_ble_eq_true rfl) ⟨rfl, rfl, x⟩
    · exact absurd c_21 (show ¬ (1 : Int32) = 0 by decide)
  · exact absurd ((bI_n0.mp c_6).symm.trans hb) (by decide)
set_option maxRecDepth 100000 in
set_option maxHeartbeats 4000000 in
theorem cs_isDone {K : KX} {n : Nat} {h : MH} {h0 : MH} {m : Nat} {M : MS} (x : Ms h0 m M h) {d : Nat} (hd : d < 8) (hb : b_in (nI d) 0 (gbrd M 1 - 1) = true) : Con K mX11_isDone [.ref m, .int (nI d)] 0 0 n h (RetP (some (.int (bI (!decide (gd (gbrd M) d 8 = 0))))) n (Ms h0 m (sthr M 0))) := by
  refine Con.of (by decide +kernel) (Nat.le_of_ble_eq_true rfl) ?_
  refine mj_aload_n 0 dX11_isDone_0 rfl ?_
  refine mj_aload_n 0 dX11_isDone_1 rfl ?_
  refine mj_iload_n 1 dX11_isDone_2 rfl ?_
  refine mS_cV1 x [_] dX11_isDone_3 cwX11_isDriver lkX11_87 rfl rfl rfl (cs_isDriver x) ⟨Nat.le_of_ble_eq_true rfl, Nat.le_of_ble_eq_true rfl, Nat.le_of_ble_eq_true rfl, Nat.le_of_ble_eq_true rfl, Nat.le_of_ble_eq_true rfl⟩ (fun h x => ?_)
  refine mj_if_eq 13 dX11_isDone_6 (by decide) (fun c_6 => ?_) (fun c_6 => ?_)
  · exact absurd ((bI_0.mp c_6).symm.trans hb) (by decide)
  · refine mj_iconst (v := 0) dX11_isDone_9 rfl ?_
    refine mj_goto 14 dX11_isDone_10 (by decide) ?_
    refine mS_pthr dX11_isDone_14 fgX11_61 x (fun h x => ?_)
    refine mj_aload_n 0 dX11_isDone_17 rfl ?_
    refine mS_gthr dX11_isDone_18 fgX11_61 x ?_
    refine mj_if_ne 36 dX11_isDone_21 (by decide) (fun c_21 => ?_) (fun c_21 => ?_)
    · exact absurd (show (0 : Int32) = 0 from rfl) c_21
    · refine mj_aload_n 0 dX11_isDone_24 rfl ?_
      refine mj_iload_n 1 dX11_isDone_25 rfl ?_
      refine mS_cV1 x [_] dX11_isDone_26 cwX11_isOpen lkX11_95 rfl rfl rfl (cs_isOpen x hd) ⟨Nat.le_of_ble_eq_true rfl, Nat.le_of_ble_eq_true rfl, Nat.le_of_ble_eq_true rfl, Nat.le_of_ble_eq_true rfl, Nat.le_of_ble_eq_true rfl⟩ (fun h x => ?_)
      refine mj_if_ne 36 dX11_isDone_29 (by decide) (fun c_29 => ?_) (fun c_29 => ?_)
      · have z := bI_n0.mp c_29
        refine mj_iconst (v := 0) dX11_isDone_36 rfl ?_
        exact mj_zret dX11_isDone_37 rfl (by first | exact Or.inl rfl | exact Or.inr rfl) (Nat.le_of_ble_eq_true rfl) (Nat.le_of_ble_eq_true rfl) ⟨(by rw [show decide (gd (gbrd M) d 8 = 0) = _ from z]; rfl), rfl, x⟩
      · have z := bI_0.mp c_29
        refine mj_iconst (v := 1) dX11_isDone_32 rfl ?_
        refine mj_goto 37 dX11_isDone_33 (by decide) ?_
        exact mj_zret dX11_isDone_37 rfl (by first | exact Or.inl rfl | exact Or.inr rfl) (Nat.le_of_ble_eq_true rfl) (Nat.le_of_ble_eq_true rfl) ⟨(by rw [show decide (gd (gbrd M) d 8 = 0) = _ from z]; rfl), rfl, x⟩
set_option maxRecDepth 100000 in
set_option maxHeartbeats 4000000 in
theorem cs_riderState_no {K : KX} {n : Nat} {h : MH} {h0 : MH} {m : Nat} {M : MS} (x : Ms h0 m M h) {i : Int32} (hb : b_in i 0 (gbrd M 2 - 1) = false) : Con K mX11_riderState [.ref m, .int i] 0 0 n h (RetP (some (.int (0))) n (Ms h0 m (sthr M 1))) := by
  refine Con.of (by decide +kernel) (Nat.le_of_ble_eq_true rfl) ?_
  refine mj_aload_n 0 dX11_riderState_0 rfl ?_
  refine mj_iconst (v := 0) dX11_riderState_1 rfl ?_
  refine mS_pthr dX11_riderState_2 fgX11_61 x (fun h x => ?_)
  refine mj_aload_n 0 dX11_riderState_5 rfl ?_
  refine mj_iload_n 1 dX11_riderState_6 rfl ?_
  refine mS_cV1 x [_] dX11_riderState_7 cwX11_isRider lkX11_112 rfl rfl rfl (cs_isRider x) ⟨Nat.le_of_ble_eq_true rfl, Nat.le_of_ble_eq_true rfl, Nat.le_of_ble_eq_true rfl, Nat.le_of_ble_eq_true rfl, Nat.le_of_ble_eq_true rfl⟩ (fun h x => ?_)
  refine mj_if_eq 23 dX11_riderState_10 (by decide) (fun c_10 => ?_) (fun c_10 => ?_)
  · refine mj_aload_n 0 dX11_riderState_23 rfl ?_
    refine mj_iconst (v := 1) dX11_riderState_24 rfl ?_
    refine mS_cV1 x [_] dX11_riderState_25 cwX11_fail lkX11_79 rfl rfl rfl (cs_fail x (v := 1)) ⟨Nat.le_of_ble_eq_true rfl, Nat.le_of_ble_eq_true rfl, Nat.le_of_ble_eq_true rfl, Nat.le_of_ble_eq_true rfl, Nat.le_of_ble_eq_true rfl⟩ (fun h x => ?_)
    exact mj_iret dX11_riderState_28 rfl (Nat.le_of_ble_eq_true rfl) (Nat.le_of_ble_eq_true rfl) ⟨rfl, rfl, (by rw [sthr_ss] at x; exact x)⟩
  · exact absurd ((bI_n0.mp c_10).symm.trans hb) (by decide)
set_option maxRecDepth 100000 in
set_option maxHeartbeats 4000000 in
theorem cs_riderState {K : KX} {n : Nat} {h : MH} {h0 : MH} {m : Nat} {M : MS} (x : Ms h0 m M h) {r : Nat} (hr : r < 20) (hb : b_in (nI r) 0 (gbrd M 2 - 1) = true) : Con K mX11_riderState [.ref m, .int (nI r)] 0 0 n h (RetP (some (.int (gr (gbrd M) r 6))) n (Ms h0 m (sthr M 0))) := by
  refine Con.of (by decide +kernel) (Nat.le_of_ble_eq_true rfl) ?_
  refine mj_aload_n 0 dX11_riderState_0 rfl ?_
  refine mj_iconst (v := 0) dX11_riderState_1 rfl ?_
  refine mS_pthr dX11_riderState_2 fgX11_61 x (fun h x => ?_)
  refine mj_aload_n 0 dX11_riderState_5 rfl ?_
  refine mj_iload_n 1 dX11_riderState_6 rfl ?_
  refine mS_cV1 x [_] dX11_riderState_7 cwX11_isRider lkX11_112 rfl rfl rfl (cs_isRider x) ⟨Nat.le_of_ble_eq_true rfl, Nat.le_of_ble_eq_true rfl, Nat.le_of_ble_eq_true rfl, Nat.le_of_ble_eq_true rfl, Nat.le_of_ble_eq_true rfl⟩ (fun h x => ?_)
  refine mj_if_eq 23 dX11_riderState_10 (by decide) (fun c_10 => ?_) (fun c_10 => ?_)
  · exact absurd ((bI_0.mp c_10).symm.trans hb) (by decide)
  · refine mj_aload_n 0 dX11_riderState_13 rfl ?_
    refine mj_iload_n 1 dX11_riderState_14 rfl ?_
    refine mj_bipush (v := (6)) dX11_riderState_15 rfl ?_
    refine mS_cV1 x [_, _] dX11_riderState_17 cwX11_rider lkX11_72 rfl rfl rfl (cs_rider x (r := r) (f := 6) hr (by decide)) ⟨Nat.le_of_ble_eq_true rfl, Nat.le_of_ble_eq_true rfl, Nat.le_of_ble_eq_true rfl, Nat.le_of_ble_eq_true rfl, Nat.le_of_ble_eq_true rfl⟩ (fun h x => ?_)
    refine mj_goto 28 dX11_riderState_20 (by decide) ?_
    exact mj_iret dX11_riderState_28 rfl (Nat.le_of_ble_eq_true rfl) (Nat.le_of_ble_eq_true rfl) ⟨rfl, rfl, x⟩
set_option maxRecDepth 100000 in
set_option maxHeartbeats 4000000 in
theorem cs_driverOf_no {K : KX} {n : Nat} {h : MH} {h0 : MH} {m : Nat} {M : MS} (x : Ms h0 m M h) {i : Int32} (hb : b_in i 0 (gbrd M 2 - 1) = false) : Con K mX11_driverOf [.ref m, .int i] 0 0 n h (RetP (some (.int (0))) n (Ms h0 m (sthr M 1))) := by
  refine Con.of (by decide +kernel) (Nat.le_of_ble_eq_true rfl) ?_
  refine mj_aload_n 0 dX11_driverOf_0 rfl ?_
  refine mj_iconst (v := 0) dX11_driverOf_1 rfl ?_
  refine mS_pthr dX11_driverOf_2 fgX11_61 x (fun h x => ?_)
  refine mj_aload_n 0 dX11_driverOf_5 rfl ?_
  refine mj_iload_n 1 dX11_driverOf_6 rfl ?_
  refine mS_cV1 x [_] dX11_driverOf_7 cwX11_isRider lkX11_112 rfl rfl rfl (cs_isRider x) ⟨Nat.le_of_ble_eq_true rfl, Nat.le_of_ble_eq_true rfl, Nat.le_of_ble_eq_true rfl, Nat.le_of_ble_eq_true rfl, Nat.le_of_ble_eq_true rfl⟩ (fun h x => ?_)
  refine mj_if_eq 23 dX11_driverOf_10 (by decide) (fun c_10 => ?_) (fun c_10 => ?_)
  · refine mj_aload_n 0 dX11_driverOf_23 rfl ?_
    refine mj_iconst (v := 1) dX11_driverOf_24 rfl ?_
    refine mS_cV1 x [_] dX11_driverOf_25 cwX11_fail lkX11_79 rfl rfl rfl (cs_fail x (v := 1)) ⟨Nat.le_of_ble_eq_true rfl, Nat.le_of_ble_eq_true rfl, Nat.le_of_ble_eq_true rfl, Nat.le_of_ble_eq_true rfl, Nat.le_of_ble_eq_true rfl⟩ (fun h x => ?_)
    exact mj_iret dX11_driverOf_28 rfl (Nat.le_of_ble_eq_true rfl) (Nat.le_of_ble_eq_true rfl) ⟨rfl, rfl, (by rw [sthr_ss] at x; exact x)⟩
  · exact absurd ((bI_n0.mp c_10).symm.trans hb) (by decide)
set_option maxRecDepth 100000 in
set_option maxHeartbeats 4000000 in
theorem cs_driverOf {K : KX} {n : Nat} {h : MH} {h0 : MH} {m : Nat} {M : MS} (x : Ms h0 m M h) {r : Nat} (hr : r < 20) (hb : b_in (nI r) 0 (gbrd M 2 - 1) = true) : Con K mX11_driverOf [.ref m, .int (nI r)] 0 0 n h (RetP (some (.int (gr (gbrd M) r 7))) n (Ms h0 m (sthr M 0))) := by
  refine Con.of (by decide +kernel) (Nat.le_of_ble_eq_true rfl) ?_
  refine mj_aload_n 0 dX11_driverOf_0 rfl ?_
  refine mj_iconst (v := 0) dX11_driverOf_1 rfl ?_
  refine mS_pthr dX11_driverOf_2 fgX11_61 x (fun h x => ?_)
  refine mj_aload_n 0 dX11_driverOf_5 rfl ?_
  refine mj_iload_n 1 dX11_driverOf_6 rfl ?_
  refine mS_cV1 x [_] dX11_driverOf_7 cwX11_isRider lkX11_112 rfl rfl rfl (cs_isRider x) ⟨Nat.le_of_ble_eq_true rfl, Nat.le_of_ble_eq_true rfl, Nat.le_of_ble_eq_true rfl, Nat.le_of_ble_eq_true rfl, Nat.le_of_ble_eq_true rfl⟩ (fun h x => ?_)
  refine mj_if_eq 23 dX11_driverOf_10 (by decide) (fun c_10 => ?_) (fun c_10 => ?_)
  · exact absurd ((bI_0.mp c_10).symm.trans hb) (by decide)
  · refine mj_aload_n 0 dX11_driverOf_13 rfl ?_
    refine mj_iload_n 1 dX11_driverOf_14 rfl ?_
    refine mj_bipush (v := (7)) dX11_driverOf_15 rfl ?_
    refine mS_cV1 x [_, _] dX11_driverOf_17 cwX11_rider lkX11_72 rfl rfl rfl (cs_rider x (r := r) (f := 7) hr (by decide)) ⟨Nat.le_of_ble_eq_true rfl, Nat.le_of_ble_eq_true rfl, Nat.le_of_ble_eq_true rfl, Nat.le_of_ble_eq_true rfl, Nat.le_of_ble_eq_true rfl⟩ (fun h x => ?_)
    refine mj_goto 28 dX11_driverOf_20 (by decide) ?_
    exact mj_iret dX11_driverOf_28 rfl (Nat.le_of_ble_eq_true rfl) (Nat.le_of_ble_eq_true rfl) ⟨rfl, rfl, x⟩
