theorem sbrd_ss (M : MS) (b b' : Nat → Int32) : sbrd (sbrd M b) b' = sbrd M b' := by
  show (_, _, vf_upd (vf_upd (mA M) 1 b) 1 b', _) = (_, _, vf_upd (mA M) 1 b', _)
  rw [vf_ss]
  rfl
theorem sbrd_id (M : MS) : sbrd M (gbrd M) = M := by
  show (_, _, vf_upd (mA M) 1 (mA M 1), _) = M
  rw [vf_id]
theorem sbrd_gbrd (M : MS) (b : Nat → Int32) : gbrd (sbrd M b) = b := rfl
theorem sbrd_grow (M : MS) (b : Nat → Int32) : grow (sbrd M b) = grow M := rfl
theorem sbrd_grcnt (M : MS) (b : Nat → Int32) : grcnt (sbrd M b) = grcnt M := rfl
def t_put (b : Nat → Int32) (d : Nat) (rw : Nat → Int32) : Nat → Nat → Int32
  | 0 => b
  | k + 1 => upd (t_put b d rw k) (88 + 40 * d + k) (rw k)
def q_put (M : MS) (d cnt : Nat) : MS := sbrd M (t_put (upd (gbrd M) (8 + 10 * d + 9) (nI cnt)) d (grow M) cnt)
set_option maxRecDepth 100000 in
set_option maxHeartbeats 4000000 in
theorem cn_X11_putRoute {K : KX} {n : Nat} {h : MH} {h0 : MH} {m : Nat} {M : MS} (x : Md h0 m M h) {d cnt : Nat} (hd : d < 8) (hc : grcnt M = nI cnt) (hcnt : cnt ≤ 40) : Con K mX11_putRoute [.ref m, .int (nI d)] 0 0 n h (RetP none n (Md h0 m (q_put M d cnt))) := by
  refine Con.of (by decide +kernel) (Nat.le_of_ble_eq_true rfl) ?_
  have loop : ∀ (f : Nat) (k : Nat) (h1 : MH), k + f = cnt → Md h0 m (sbrd M (t_put (upd (gbrd M) (8 + 10 * d + 9) (nI cnt)) d (grow M) k)) h1 → GG (K, mX11_putRoute, 0, 0, RetP none n (Md h0 m (q_put M d cnt))) 0 0 13 [(2, .int (nI k)), (0, .ref m), (1, .int (nI d))] [] n h1 := by
    intro f
    induction f with
    | zero =>
      intro k h1 hk x
      refine mj_iload_n 0 dX11_putRoute_13 rfl ?_
      refine mj_aload_n 1 dX11_putRoute_14 rfl ?_
      refine mj_getf dX11_putRoute_15 fgX11_137 x.ko rfl ?_
      refine mj_eq ((sbrd_grcnt M (t_put (upd (gbrd M) (8 + 10 * d + 9) (nI cnt)) d (grow M) k)).trans hc) ?_
      refine mj_icmp_ge 47 dX11_putRoute_18 (by decide) (fun c_18 => ?_) (fun c_18 => ?_)
      · exact mj_vret dX11_putRoute_47 rfl (Nat.le_of_ble_eq_true rfl) (Nat.le_of_ble_eq_true rfl) ⟨rfl, rfl, (by unfold q_put; rw [show k = cnt by omega] at x; exact x)⟩
      · exact absurd (nI_le (by omega) (by omega)) c_18
    | succ f ih =>
      intro k h1 hk x
      refine mj_iload_n 0 dX11_putRoute_13 rfl ?_
      refine mj_aload_n 1 dX11_putRoute_14 rfl ?_
      refine mj_getf dX11_putRoute_15 fgX11_137 x.ko rfl ?_
      refine mj_eq ((sbrd_grcnt M (t_put (upd (gbrd M) (8 + 10 * d + 9) (nI cnt)) d (grow M) k)).trans hc) ?_
      refine mj_icmp_ge 47 dX11_putRoute_18 (by decide) (fun c_18 => ?_) (fun c_18 => ?_)
      · exact absurd c_18 (nI_ge (by omega) (by omega))
      · refine mj_aload_n 1 dX11_putRoute_21 rfl ?_
        refine mj_getf dX11_putRoute_22 fgX11_7 x.ko rfl ?_
        refine mj_bipush (v := (88)) dX11_putRoute_25 rfl ?_
        refine mj_bipush (v := (40)) dX11_putRoute_27 rfl ?_
        refine mj_iload_n 2 dX11_putRoute_29 rfl ?_
        refine mj_imul dX11_putRoute_30 ?_
        refine mj_iadd dX11_putRoute_31 ?_
        refine mj_iload_n 0 dX11_putRoute_32 rfl ?_
        refine mj_iadd dX11_putRoute_33 ?_
        refine mj_aload_n 1 dX11_putRoute_34 rfl ?_
        refine mj_getf dX11_putRoute_35 fgX11_33 x.ko rfl ?_
        refine mj_iload_n 0 dX11_putRoute_38 rfl ?_
        refine mj_iald x.krow (ixn (by omega)) (by first | assumption | omega | decide) dX11_putRoute_39 ?_
        refine mj_eq (congrFun (sbrd_grow M (t_put (upd (gbrd M) (8 + 10 * d + 9) (nI cnt)) d (grow M) k)) k) ?_
        refine mM_abrd x (ix_stp (by omega) (by omega)) (by first | assumption | omega | decide) dX11_putRoute_40 (fun h x => ?_)
        rw [sbrd_gbrd, sbrd_ss] at x
        refine mj_iinc (ls' := [(2, _), (0, _), (1, _)]) 0 dX11_putRoute_41 rfl (nI_s _) (Nat.le_of_ble_eq_true rfl) rfl ?_
        refine mj_goto 13 dX11_putRoute_44 (by decide) ?_
        exact mj_ls [0, 1, 2] rfl (ih (k + 1) h (by omega) x)
  refine mj_aload_n 0 dX11_putRoute_0 rfl ?_
  refine mj_iload_n 1 dX11_putRoute_1 rfl ?_
  refine mj_bipush (v := (9)) dX11_putRoute_2 rfl ?_
  refine mj_aload_n 0 dX11_putRoute_4 rfl ?_
  refine mj_getf dX11_putRoute_5 fgX11_137 x.ko rfl ?_
  refine mj_eq (hc) ?_
  refine mj_cV0 [_, _, _] (RX11, TX11, 32) dX11_putRoute_8 cwX11_setDriver lkX11_75 x.ko rfl rfl rfl rfl (cn_X11_setDriver x (d := d) (f := 9) (v := nI cnt) hd (by decide)) ⟨Nat.le_of_ble_eq_true rfl, Nat.le_of_ble_eq_true rfl, Nat.le_of_ble_eq_true rfl, Nat.le_of_ble_eq_true rfl, Nat.le_of_ble_eq_true rfl⟩ (fun h x => ?_)
  refine mj_iconst (v := 0) dX11_putRoute_11 rfl ?_
  refine mj_istore_n (ls' := [(2, _), (0, _), (1, _)]) dX11_putRoute_12 (Nat.le_of_ble_eq_true rfl) rfl ?_
  exact mj_ls [0, 1, 2] rfl (loop cnt 0 h (by omega) x)
