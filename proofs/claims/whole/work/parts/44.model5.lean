def q_tk (M : MS) (ct : Nat) (rw : Nat → Int32) : MS := srow (srcnt M (nI ct)) rw
theorem q_tk_dF (M : MS) (ct : Nat) (rw : Nat → Int32) (d f : Nat) : dF (q_tk M ct rw) d f = dF M d f := rfl
theorem q_tk_sF (M : MS) (ct : Nat) (rw : Nat → Int32) (d f : Nat) : sF (q_tk M ct rw) d f = sF M d f := rfl
theorem q_tk_grcnt (M : MS) (ct : Nat) (rw : Nat → Int32) : grcnt (q_tk M ct rw) = nI ct := rfl
theorem q_tk_grow (M : MS) (ct : Nat) (rw : Nat → Int32) : grow (q_tk M ct rw) = rw := rfl
theorem q_tk_srow (M : MS) (ct : Nat) (rw rw' : Nat → Int32) : srow (q_tk M ct rw) rw' = q_tk M ct rw' := by
  show (_, _, vf_upd (vf_upd (mA M) 8 rw) 8 rw', _) = (_, _, vf_upd (mA M) 8 rw', _)
  rw [vf_ss]
  rfl
theorem q_tk_srcnt (M : MS) (ct ct' : Nat) (rw : Nat → Int32) : srcnt (q_tk M ct rw) (nI ct') = q_tk M ct' rw := by
  show (vf_upd (vf_upd (mF M) 9 (nI ct)) 9 (nI ct'), _) = (vf_upd (mF M) 9 (nI ct'), _)
  rw [vf_ss]
  rfl
theorem q_tk_init (M : MS) : srcnt M 0 = q_tk M 0 (grow M) := by
  show (_, _, mA M, _) = (_, _, vf_upd (mA M) 8 (mA M 8), _)
  rw [vf_id]
  rfl
def i_rem (x : Int32) : Int32 := x - x / 100 * 100
def t_to (M : MS) (d : Nat) (wo : Int32) : Nat → Nat × (Nat → Int32)
  | 0 => (0, grow M)
  | k + 1 => if i_rem (sF M d k) = wo then t_to M d wo k else ((t_to M d wo k).1 + 1, upd (t_to M d wo k).2 (t_to M d wo k).1 (sF M d k))
theorem t_to_ok (M : MS) (d : Nat) (wo : Int32) : ∀ k, (∀ i, i < k → SCode (sF M d i)) → (t_to M d wo k).1 ≤ k ∧ ∀ j, j < (t_to M d wo k).1 → SCode ((t_to M d wo k).2 j)
  | 0, _ => ⟨Nat.le_refl 0, fun j hj => absurd hj (Nat.not_lt_zero j)⟩
  | k + 1, h => by
    obtain ⟨a, b⟩ := t_to_ok M d wo k (fun i hi => h i (by omega))
    unfold t_to
    split
    · exact ⟨by omega, b⟩
    · refine ⟨by dsimp only; omega, fun j hj => ?_⟩
      dsimp only at hj ⊢
      unfold upd
      by_cases e : j = (t_to M d wo k).1
      · rw [if_pos e]; exact h k (by omega)
      · rw [if_neg e]; exact b j (by omega)
def q_take (M : MS) (d ns : Nat) (wo : Int32) : MS := q_meas (q_tk M (t_to M d wo ns).1 (t_to M d wo ns).2) d (t_to M d wo ns).1
set_option maxRecDepth 100000 in
set_option maxHeartbeats 4000000 in
theorem cn_X11_takeRoute {K : KX} {n : Nat} {h : MH} {h0 : MH} {m : Nat} {M : MS} (x : Md h0 m M h) {d ns : Nat} {wo : Int32} (hd : d < 8) (hs : dF M d 9 = nI ns) (hns : ns ≤ 40) (hcode : ∀ i, i < ns → SCode (sF M d i)) : Con K mX11_takeRoute [.ref m, .int (nI d), .int wo] 0 0 n h (RetP none n (Md h0 m (q_take M d ns wo))) := by
  refine Con.of (by decide +kernel) (Nat.le_of_ble_eq_true rfl) ?_
  have loop : ∀ (f : Nat) (k ct : Nat) (rw : Nat → Int32) (h1 : MH), k + f = ns → t_to M d wo k = (ct, rw) → Md h0 m (q_tk M ct rw) h1 → GG (K, mX11_takeRoute, 0, 0, RetP none n (Md h0 m (q_take M d ns wo))) 0 0 7 [(3, .int (nI k)), (0, .ref m), (1, .int (nI d)), (2, .int wo)] [] n h1 := by
    intro f
    induction f with
    | zero =>
      intro k ct rw h1 hk ht x
      have hok := t_to_ok M d wo k (fun i hi => hcode i (by omega))
      rw [ht] at hok
      have hk2 := hok.1
      dsimp only at hk2
      refine mj_iload_n 0 dX11_takeRoute_7 rfl ?_
      refine mj_aload_n 1 dX11_takeRoute_8 rfl ?_
      refine mj_iload_n 2 dX11_takeRoute_9 rfl ?_
      refine mj_bipush (v := (9)) dX11_takeRoute_10 rfl ?_
      refine mj_cV1 [_, _] (RX11, TX11, 32) dX11_takeRoute_12 cwX11_driver lkX11_68 x.ko rfl rfl rfl rfl (cn_X11_driver x (d := d) (f := 9) hd (by decide)) ⟨Nat.le_of_ble_eq_true rfl, Nat.le_of_ble_eq_true rfl, Nat.le_of_ble_eq_true rfl, Nat.le_of_ble_eq_true rfl, Nat.le_of_ble_eq_true rfl⟩ (fun h x => ?_)
      refine mj_eq ((q_tk_dF M ct rw _ _).trans hs) ?_
      refine mj_icmp_ge 62 dX11_takeRoute_15 (by decide) (fun c_15 => ?_) (fun c_15 => ?_)
      · refine mj_aload_n 1 dX11_takeRoute_62 rfl ?_
        refine mj_iload_n 2 dX11_takeRoute_63 rfl ?_
        refine mj_cV0 [_] (RX11, TX11, 32) dX11_takeRoute_64 cwX11_measureRow lkX11_152 x.ko rfl rfl rfl rfl (cn_X11_measureRow x hd (q_tk_grcnt M ct rw) (by omega) (by rw [q_tk_grow]; exact hok.2)) ⟨Nat.le_of_ble_eq_true rfl, Nat.le_of_ble_eq_true rfl, Nat.le_of_ble_eq_true rfl, Nat.le_of_ble_eq_true rfl, Nat.le_of_ble_eq_true rfl⟩ (fun h x => ?_)
        exact mj_vret dX11_takeRoute_67 rfl (Nat.le_of_ble_eq_true rfl) (Nat.le_of_ble_eq_true rfl) ⟨rfl, rfl, (by unfold q_take; rw [show ns = k by omega, ht]; exact x)⟩
      · exact absurd (nI_le (by omega) (by omega)) c_15
    | succ f ih =>
      intro k ct rw h1 hk ht x
      have hok := t_to_ok M d wo k (fun i hi => hcode i (by omega))
      rw [ht] at hok
      have hk2 := hok.1
      dsimp only at hk2
      refine mj_iload_n 0 dX11_takeRoute_7 rfl ?_
      refine mj_aload_n 1 dX11_takeRoute_8 rfl ?_
      refine mj_iload_n 2 dX11_takeRoute_9 rfl ?_
      refine mj_bipush (v := (9)) dX11_takeRoute_10 rfl ?_
      refine mj_cV1 [_, _] (RX11, TX11, 32) dX11_takeRoute_12 cwX11_driver lkX11_68 x.ko rfl rfl rfl rfl (cn_X11_driver x (d := d) (f := 9) hd (by decide)) ⟨Nat.le_of_ble_eq_true rfl, Nat.le_of_ble_eq_true rfl, Nat.le_of_ble_eq_true rfl, Nat.le_of_ble_eq_true rfl, Nat.le_of_ble_eq_true rfl⟩ (fun h x => ?_)
      refine mj_eq ((q_tk_dF M ct rw _ _).trans hs) ?_
      refine mj_icmp_ge 62 dX11_takeRoute_15 (by decide) (fun c_15 => ?_) (fun c_15 => ?_)
      · exact absurd c_15 (nI_ge (by omega) (by omega))
      · refine mj_aload_n 1 dX11_takeRoute_18 rfl ?_
        refine mj_iload_n 2 dX11_takeRoute_19 rfl ?_
        refine mj_iload_n 0 dX11_takeRoute_20 rfl ?_
        refine mj_cV1 [_, _] (RX11, TX11, 32) dX11_takeRoute_21 cwX11_stop lkX11_149 x.ko rfl rfl rfl rfl (cn_X11_stop x (d := d) (i := k) hd (by omega)) ⟨Nat.le_of_ble_eq_true rfl, Nat.le_of_ble_eq_true rfl, Nat.le_of_ble_eq_true rfl, Nat.le_of_ble_eq_true rfl, Nat.le_of_ble_eq_true rfl⟩ (fun h x => ?_)
        refine mj_eq (q_tk_sF M ct rw _ _) ?_
        refine mj_istore (ls' := [(4, _), (3, _), (0, _), (1, _), (2, _)]) dX11_takeRoute_24 (Nat.le_of_ble_eq_true rfl) rfl ?_
        refine mj_iload 0 dX11_takeRoute_26 rfl ?_
        refine mj_bipush (v := (100)) dX11_takeRoute_28 rfl ?_
        refine mj_irem dX11_takeRoute_30 (show ¬ (100 : Int32) = 0 by decide) ?_
        refine mj_iload_n 4 dX11_takeRoute_31 rfl ?_
        refine mj_icmp_eq 56 dX11_takeRoute_32 (by decide) (fun c_32 => ?_) (fun c_32 => ?_)
        · refine mj_iinc (ls' := [(3, _), (4, _), (0, _), (1, _), (2, _)]) 1 dX11_takeRoute_56 rfl (nI_s _) (Nat.le_of_ble_eq_true rfl) rfl ?_
          refine mj_goto 7 dX11_takeRoute_59 (by decide) ?_
          exact mj_ls [0, 2, 3, 4] rfl (ih (k + 1) ct rw h (by omega) (by unfold t_to; rw [if_pos (show i_rem (sF M d k) = wo from c_32)]; exact ht) x)
        · refine mj_aload_n 2 dX11_takeRoute_35 rfl ?_
          refine mj_getf dX11_takeRoute_36 fgX11_33 x.ko rfl ?_
          refine mj_aload_n 2 dX11_takeRoute_39 rfl ?_
          refine mj_getf dX11_takeRoute_40 fgX11_137 x.ko rfl ?_
          refine mj_eq (q_tk_grcnt M ct rw) ?_
          refine mj_iload 0 dX11_takeRoute_43 rfl ?_
          refine mM_arow x (ixn (by omega)) (show ct < 44 by omega) dX11_takeRoute_45 (fun h x => ?_)
          rw [q_tk_grow, q_tk_srow] at x
          refine mj_aload_n 2 dX11_takeRoute_46 rfl ?_
          refine mj_dup dX11_takeRoute_47 rfl ?_
          refine mj_getf dX11_takeRoute_48 fgX11_137 x.ko rfl ?_
          refine mj_eq (q_tk_grcnt M ct _) ?_
          refine mj_iconst (v := 1) dX11_takeRoute_51 rfl ?_
          refine mj_iadd dX11_takeRoute_52 ?_
          refine mj_eq (nI_1 ct) ?_
          refine mM_prcnt dX11_takeRoute_53 fgX11_137 x (fun h x => ?_)
          rw [q_tk_srcnt] at x
          refine mj_iinc (ls' := [(3, _), (4, _), (0, _), (1, _), (2, _)]) 1 dX11_takeRoute_56 rfl (nI_s _) (Nat.le_of_ble_eq_true rfl) rfl ?_
          refine mj_goto 7 dX11_takeRoute_59 (by decide) ?_
          exact mj_ls [0, 2, 3, 4] rfl (ih (k + 1) (ct + 1) _ h (by omega) (by unfold t_to; rw [if_neg (show ¬ i_rem (sF M d k) = wo from c_32), ht]) x)
  refine mj_aload_n 0 dX11_takeRoute_0 rfl ?_
  refine mj_iconst (v := 0) dX11_takeRoute_1 rfl ?_
  refine mM_prcnt dX11_takeRoute_2 fgX11_137 x (fun h x => ?_)
  refine mj_iconst (v := 0) dX11_takeRoute_5 rfl ?_
  refine mj_istore_n (ls' := [(3, _), (0, _), (1, _), (2, _)]) dX11_takeRoute_6 (Nat.le_of_ble_eq_true rfl) rfl ?_
  rw [q_tk_init] at x
  exact mj_ls [0, 1, 2, 3] rfl (loop ns 0 0 (grow M) h (by omega) rfl x)
set_option maxRecDepth 100000 in
set_option maxHeartbeats 4000000 in
theorem cn_X11_lengthOf {K : KX} {n : Nat} {h : MH} {h0 : MH} {m : Nat} {M : MS} (x : Md h0 m M h) {d ns : Nat} (hd : d < 8) (hs : dF M d 9 = nI ns) (hns : ns ≤ 40) (hcode : ∀ i, i < ns → SCode (sF M d i)) : Con K mX11_lengthOf [.ref m, .int (nI d)] 0 0 n h (RetP (some (.int (grlen (q_take M d ns (-1))))) n (Md h0 m (q_take M d ns (-1)))) := by
  refine Con.of (by decide +kernel) (Nat.le_of_ble_eq_true rfl) ?_
  refine mj_aload_n 0 dX11_lengthOf_0 rfl ?_
  refine mj_iload_n 1 dX11_lengthOf_1 rfl ?_
  refine mj_iconst (v := (-1)) dX11_lengthOf_2 rfl ?_
  refine mj_cV0 [_, _] (RX11, TX11, 32) dX11_lengthOf_3 cwX11_takeRoute lkX11_156 x.ko rfl rfl rfl rfl (cn_X11_takeRoute x hd hs hns hcode) ⟨Nat.le_of_ble_eq_true rfl, Nat.le_of_ble_eq_true rfl, Nat.le_of_ble_eq_true rfl, Nat.le_of_ble_eq_true rfl, Nat.le_of_ble_eq_true rfl⟩ (fun h x => ?_)
  refine mj_aload_n 0 dX11_lengthOf_6 rfl ?_
  refine mj_getf dX11_lengthOf_7 fgX11_130 x.ko rfl ?_
  exact mj_iret dX11_lengthOf_10 rfl (Nat.le_of_ble_eq_true rfl) (Nat.le_of_ble_eq_true rfl) ⟨rfl, rfl, x⟩
