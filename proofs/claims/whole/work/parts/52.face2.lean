def w_maskTo (g : Nat → Int32) (d : Nat) : Nat → Int32
  | 0 => 0
  | k + 1 => w_maskTo g d k ||| (if gr g k 7 = nI d then (1 : Int32) <<< (nI k &&& 31) else 0)
set_option maxRecDepth 100000 in
set_option maxHeartbeats 4000000 in
theorem cs_ridersIn {K : KX} {n : Nat} {h : MH} {h0 : MH} {m : Nat} {M : MS} (x : Ms h0 m M h) {d : Nat} {nr : Nat} (hnr : gbrd M 2 = nI nr) (h20 : nr ≤ 20) : Con K mX11_ridersIn [.ref m, .int (nI d)] 0 0 n h (RetP (some (.int (w_maskTo (gbrd M) d nr))) n (Ms h0 m M)) := by
  refine Con.of (by decide +kernel) (Nat.le_of_ble_eq_true rfl) ?_
  have loop : ∀ (f : Nat) (k : Nat) (v : Int32) (h1 : MH), k + f = nr → w_maskTo (gbrd M) d k = v → Ms h0 m M h1 → GG (K, mX11_ridersIn, 0, 0, RetP (some (.int (w_maskTo (gbrd M) d nr))) n (Ms h0 m M)) 0 0 4 [(3, .int (nI k)), (2, .int v), (0, .ref m), (1, .int (nI d))] [] n h1 := by
    intro f
    induction f with
    | zero =>
      intro k v h1 hk hv x
      refine mj_iload_n 0 dX11_ridersIn_4 rfl ?_
      refine mj_aload_n 2 dX11_ridersIn_5 rfl ?_
      refine mS_gbrd dX11_ridersIn_6 fgX11_7 x ?_
      refine mj_iconst (v := 2) dX11_ridersIn_9 rfl ?_
      refine mS_lbrd x ((show (2 : Int32).toInt = ((2 : Nat) : Int) from rfl)) (by first | assumption | omega | decide) dX11_ridersIn_10 ?_
      refine mj_eq (hnr) ?_
      refine mj_icmp_ge 39 dX11_ridersIn_11 (by decide) (fun c_11 => ?_) (fun c_11 => ?_)
      · refine mj_iload_n 1 dX11_ridersIn_39 rfl ?_
        exact mj_iret dX11_ridersIn_40 rfl (Nat.le_of_ble_eq_true rfl) (Nat.le_of_ble_eq_true rfl) ⟨(by rw [show nr = k by omega, hv]), rfl, x⟩
      · exact absurd (nI_le (by omega) (by omega)) c_11
    | succ f ih =>
      intro k v h1 hk hv x
      refine mj_iload_n 0 dX11_ridersIn_4 rfl ?_
      refine mj_aload_n 2 dX11_ridersIn_5 rfl ?_
      refine mS_gbrd dX11_ridersIn_6 fgX11_7 x ?_
      refine mj_iconst (v := 2) dX11_ridersIn_9 rfl ?_
      refine mS_lbrd x ((show (2 : Int32).toInt = ((2 : Nat) : Int) from rfl)) (by first | assumption | omega | decide) dX11_ridersIn_10 ?_
      refine mj_eq (hnr) ?_
      refine mj_icmp_ge 39 dX11_ridersIn_11 (by decide) (fun c_11 => ?_) (fun c_11 => ?_)
      · exact absurd c_11 (nI_ge (by omega) (by omega))
      · refine mj_iload_n 1 dX11_ridersIn_14 rfl ?_
        refine mj_aload_n 2 dX11_ridersIn_15 rfl ?_
        refine mj_iload_n 0 dX11_ridersIn_16 rfl ?_
        refine mj_iload_n 3 dX11_ridersIn_17 rfl ?_
        refine mS_cV1 x [_, _] dX11_ridersIn_18 cwX11_isIn lkX11_115 rfl rfl rfl (cs_isIn x (r := k) (by omega)) ⟨Nat.le_of_ble_eq_true rfl, Nat.le_of_ble_eq_true rfl, Nat.le_of_ble_eq_true rfl, Nat.le_of_ble_eq_true rfl, Nat.le_of_ble_eq_true rfl⟩ (fun h x => ?_)
        refine mj_if_eq 30 dX11_ridersIn_21 (by decide) (fun c_21 => ?_) (fun c_21 => ?_)
        · have z := of_decide_eq_false (bI_0.mp c_21)
          refine mj_iconst (v := 0) dX11_ridersIn_30 rfl ?_
          refine mj_ior dX11_ridersIn_31 ?_
          refine mj_istore_n (ls' := [(2, _), (3, _), (0, _), (1, _)]) dX11_ridersIn_32 (Nat.le_of_ble_eq_true rfl) rfl ?_
          refine mj_iinc (ls' := [(3, _), (2, _), (0, _), (1, _)]) 1 dX11_ridersIn_33 rfl (nI_s _) (Nat.le_of_ble_eq_true rfl) rfl ?_
          refine mj_goto 4 dX11_ridersIn_36 (by decide) ?_
          exact mj_ls [0, 1, 2, 3] rfl (ih (k + 1) _ h (by omega) (by unfold w_maskTo; rw [hv, if_neg z]) x)
        · have z := of_decide_eq_true (bI_n0.mp c_21)
          refine mj_iconst (v := 1) dX11_ridersIn_24 rfl ?_
          refine mj_iload_n 0 dX11_ridersIn_25 rfl ?_
          refine mj_ishl dX11_ridersIn_26 ?_
          refine mj_goto 31 dX11_ridersIn_27 (by decide) ?_
          refine mj_ior dX11_ridersIn_31 ?_
          refine mj_istore_n (ls' := [(2, _), (3, _), (0, _), (1, _)]) dX11_ridersIn_32 (Nat.le_of_ble_eq_true rfl) rfl ?_
          refine mj_iinc (ls' := [(3, _), (2, _), (0, _), (1, _)]) 1 dX11_ridersIn_33 rfl (nI_s _) (Nat.le_of_ble_eq_true rfl) rfl ?_
          refine mj_goto 4 dX11_ridersIn_36 (by decide) ?_
          exact mj_ls [0, 1, 2, 3] rfl (ih (k + 1) _ h (by omega) (by unfold w_maskTo; rw [hv, if_pos z]) x)
  refine mj_iconst (v := 0) dX11_ridersIn_0 rfl ?_
  refine mj_istore_n (ls' := [(2, _), (0, _), (1, _)]) dX11_ridersIn_1 (Nat.le_of_ble_eq_true rfl) rfl ?_
  refine mj_iconst (v := 0) dX11_ridersIn_2 rfl ?_
  refine mj_istore_n (ls' := [(3, _), (2, _), (0, _), (1, _)]) dX11_ridersIn_3 (Nat.le_of_ble_eq_true rfl) rfl ?_
  exact mj_ls [0, 1, 2, 3] rfl (loop nr 0 0 h (by omega) rfl x)
set_option maxRecDepth 100000 in
set_option maxHeartbeats 4000000 in
theorem cs_ridersOf_no {K : KX} {n : Nat} {h : MH} {h0 : MH} {m : Nat} {M : MS} (x : Ms h0 m M h) {i : Int32} (hb : b_in i 0 (gbrd M 1 - 1) = false) : Con K mX11_ridersOf [.ref m, .int i] 0 0 n h (RetP (some (.int (0))) n (Ms h0 m (sthr M 1))) := by
  refine Con.of (by decide +kernel) (Nat.le_of_ble_eq_true rfl) ?_
  refine mj_aload_n 0 dX11_ridersOf_0 rfl ?_
  refine mj_iconst (v := 0) dX11_ridersOf_1 rfl ?_
  refine mS_pthr dX11_ridersOf_2 fgX11_61 x (fun h x => ?_)
  refine mj_aload_n 0 dX11_ridersOf_5 rfl ?_
  refine mj_iload_n 1 dX11_ridersOf_6 rfl ?_
  refine mS_cV1 x [_] dX11_ridersOf_7 cwX11_isDriver lkX11_87 rfl rfl rfl (cs_isDriver x) ⟨Nat.le_of_ble_eq_true rfl, Nat.le_of_ble_eq_true rfl, Nat.le_of_ble_eq_true rfl, Nat.le_of_ble_eq_true rfl, Nat.le_of_ble_eq_true rfl⟩ (fun h x => ?_)
  refine mj_if_eq 21 dX11_ridersOf_10 (by decide) (fun c_10 => ?_) (fun c_10 => ?_)
  · refine mj_aload_n 0 dX11_ridersOf_21 rfl ?_
    refine mj_iconst (v := 1) dX11_ridersOf_22 rfl ?_
    refine mS_cV1 x [_] dX11_ridersOf_23 cwX11_fail lkX11_79 rfl rfl rfl (cs_fail x (v := 1)) ⟨Nat.le_of_ble_eq_true rfl, Nat.le_of_ble_eq_true rfl, Nat.le_of_ble_eq_true rfl, Nat.le_of_ble_eq_true rfl, Nat.le_of_ble_eq_true rfl⟩ (fun h x => ?_)
    exact mj_iret dX11_ridersOf_26 rfl (Nat.le_of_ble_eq_true rfl) (Nat.le_of_ble_eq_true rfl) ⟨rfl, rfl, (by rw [sthr_ss] at x; exact x)⟩
  · exact absurd ((bI_n0.mp c_10).symm.trans hb) (by decide)
set_option maxRecDepth 100000 in
set_option maxHeartbeats 4000000 in
theorem cs_ridersOf {K : KX} {n : Nat} {h : MH} {h0 : MH} {m : Nat} {M : MS} (x : Ms h0 m M h) {d : Nat} (hd : d < 8) (hb : b_in (nI d) 0 (gbrd M 1 - 1) = true) {nr : Nat} (hnr : gbrd M 2 = nI nr) (h20 : nr ≤ 20) : Con K mX11_ridersOf [.ref m, .int (nI d)] 0 0 n h (RetP (some (.int (w_maskTo (gbrd M) d nr))) n (Ms h0 m (sthr M 0))) := by
  refine Con.of (by decide +kernel) (Nat.le_of_ble_eq_true rfl) ?_
  refine mj_aload_n 0 dX11_ridersOf_0 rfl ?_
  refine mj_iconst (v := 0) dX11_ridersOf_1 rfl ?_
  refine mS_pthr dX11_ridersOf_2 fgX11_61 x (fun h x => ?_)
  refine mj_aload_n 0 dX11_ridersOf_5 rfl ?_
  refine mj_iload_n 1 dX11_ridersOf_6 rfl ?_
  refine mS_cV1 x [_] dX11_ridersOf_7 cwX11_isDriver lkX11_87 rfl rfl rfl (cs_isDriver x) ⟨Nat.le_of_ble_eq_true rfl, Nat.le_of_ble_eq_true rfl, Nat.le_of_ble_eq_true rfl, Nat.le_of_ble_eq_true rfl, Nat.le_of_ble_eq_true rfl⟩ (fun h x => ?_)
  refine mj_if_eq 21 dX11_ridersOf_10 (by decide) (fun c_10 => ?_) (fun c_10 => ?_)
  · exact absurd ((bI_0.mp c_10).symm.trans hb) (by decide)
  · refine mj_aload_n 0 dX11_ridersOf_13 rfl ?_
    refine mj_iload_n 1 dX11_ridersOf_14 rfl ?_
    refine mS_cV1 x [_] dX11_ridersOf_15 cwX11_ridersIn lkX11_119 rfl rfl rfl (cs_ridersIn x (d := d) hnr h20) ⟨Nat.le_of_ble_eq_true rfl, Nat.le_of_ble_eq_true rfl, Nat.le_of_ble_eq_true rfl, Nat.le_of_ble_eq_true rfl, Nat.le_of_ble_eq_true rfl⟩ (fun h x => ?_)
    refine mj_goto 26 dX11_ridersOf_18 (by decide) ?_
    exact mj_iret dX11_ridersOf_26 rfl (Nat.le_of_ble_eq_true rfl) (Nat.le_of_ble_eq_true rfl) ⟨rfl, rfl, x⟩
set_option maxRecDepth 100000 in
set_option maxHeartbeats 4000000 in
theorem cs_setPenalty_arg {K : KX} {n : Nat} {h : MH} {h0 : MH} {m : Nat} {M : MS} (x : Ms h0 m M h) {v : Int32} (hb : b_in v 0 9999 = false) : Con K mX11_setPenalty [.ref m, .int v] 0 0 n h (RetP (some (.int (0))) n (Ms h0 m (sthr M 1))) := by
  refine Con.of (by decide +kernel) (Nat.le_of_ble_eq_true rfl) ?_
  refine mj_aload_n 0 dX11_setPenalty_0 rfl ?_
  refine mj_iconst (v := 0) dX11_setPenalty_1 rfl ?_
  refine mS_pthr dX11_setPenalty_2 fgX11_61 x (fun h x => ?_)
  refine mj_iload_n 1 dX11_setPenalty_5 rfl ?_
  refine mj_iconst (v := 0) dX11_setPenalty_6 rfl ?_
  refine mj_sipush (v := (9999)) dX11_setPenalty_7 rfl ?_
  refine mj_cS1 [_, _, _] dX11_setPenalty_10 cwX11_isBetween lkX11_64 rfl (cn_X11_isBetween _ _ _) ⟨Nat.le_of_ble_eq_true rfl, Nat.le_of_ble_eq_true rfl, Nat.le_of_ble_eq_true rfl, Nat.le_of_ble_eq_true rfl, Nat.le_of_ble_eq_true rfl⟩ (fun h' e' => ?_)
  subst h'
  refine mj_if_ne 22 dX11_setPenalty_13 (by decide) (fun c_13 => ?_) (fun c_13 => ?_)
  · exact absurd ((bI_n0.mp c_13).symm.trans hb) (by decide)
  · refine mj_aload_n 0 dX11_setPenalty_16 rfl ?_
    refine mj_iconst (v := 1) dX11_setPenalty_17 rfl ?_
    refine mS_cV1 x [_] dX11_setPenalty_18 cwX11_fail lkX11_79 rfl rfl rfl (cs_fail x (v := 1)) ⟨Nat.le_of_ble_eq_true rfl, Nat.le_of_ble_eq_true rfl, Nat.le_of_ble_eq_true rfl, Nat.le_of_ble_eq_true rfl, Nat.le_of_ble_eq_true rfl⟩ (fun h x => ?_)
    exact mj_iret dX11_setPenalty_21 rfl (Nat.le_of_ble_eq_true rfl) (Nat.le_of_ble_eq_true rfl) ⟨rfl, rfl, (by rw [sthr_ss] at x; exact x)⟩
set_option maxRecDepth 100000 in
set_option maxHeartbeats 4000000 in
theorem cs_setPenalty {K : KX} {n : Nat} {h : MH} {h0 : MH} {m : Nat} {M : MS} (x : Ms h0 m M h) {v : Int32} (hb : b_in v 0 9999 = true) : Con K mX11_setPenalty [.ref m, .int v] 0 0 n h (RetP (some (.int (gbrd M 0))) n (Ms h0 m (sbrd (sthr M 0) (upd (gbrd M) 0 v)))) := by
  refine Con.of (by decide +kernel) (Nat.le_of_ble_eq_true rfl) ?_
  refine mj_aload_n 0 dX11_setPenalty_0 rfl ?_
  refine mj_iconst (v := 0) dX11_setPenalty_1 rfl ?_
  refine mS_pthr dX11_setPenalty_2 fgX11_61 x (fun h x => ?_)
  refine mj_iload_n 1 dX11_setPenalty_5 rfl ?_
  refine mj_iconst (v := 0) dX11_setPenalty_6 rfl ?_
  refine mj_sipush (v := (9999)) dX11_setPenalty_7 rfl ?_
  refine mj_cS1 [_, _, _] dX11_setPenalty_10 cwX11_isBetween lkX11_64 rfl (cn_X11_isBetween _ _ _) ⟨Nat.le_of_ble_eq_true rfl, Nat.le_of_ble_eq_true rfl, Nat.le_of_ble_eq_true rfl, Nat.le_of_ble_eq_true rfl, Nat.le_of_ble_eq_true rfl⟩ (fun h' e' => ?_)
  subst h'
  refine mj_if_ne 22 dX11_setPenalty_13 (by decide) (fun c_13 => ?_) (fun c_13 => ?_)
  · refine mj_aload_n 0 dX11_setPenalty_22 rfl ?_
    refine mS_gbrd dX11_setPenalty_23 fgX11_7 x ?_
    refine mj_iconst (v := 0) dX11_setPenalty_26 rfl ?_
    refine mS_lbrd x ((show (0 : Int32).toInt = ((0 : Nat) : Int) from rfl)) (by first | assumption | omega | decide) dX11_setPenalty_27 ?_
    refine mj_istore_n (ls' := [(2, _), (0, _), (1, _)]) dX11_setPenalty_28 (Nat.le_of_ble_eq_true rfl) rfl ?_
    refine mj_aload_n 1 dX11_setPenalty_29 rfl ?_
    refine mS_gbrd dX11_setPenalty_30 fgX11_7 x ?_
    refine mj_iconst (v := 0) dX11_setPenalty_33 rfl ?_
    refine mj_iload_n 2 dX11_setPenalty_34 rfl ?_
    refine mS_abrd x ((show (0 : Int32).toInt = ((0 : Nat) : Int) from rfl)) (by first | assumption | omega | decide) dX11_setPenalty_35 (fun h x => ?_)
    refine mj_iload_n 0 dX11_setPenalty_36 rfl ?_
    exact mj_iret dX11_setPenalty_37 rfl (Nat.le_of_ble_eq_true rfl) (Nat.le_of_ble_eq_true rfl) ⟨rfl, rfl, x⟩
  · exact absurd ((bI_0.mp c_13).symm.trans hb) (by decide)
set_option maxRecDepth 100000 in
set_option maxHeartbeats 4000000 in
theorem cs_stopCount_no {K : KX} {n : Nat} {h : MH} {h0 : MH} {m : Nat} {M : MS} (x : Ms h0 m M h) {i : Int32} (hb : b_in i 0 (gbrd M 1 - 1) = false) : Con K mX11_stopCount [.ref m, .int i] 0 0 n h (RetP (some (.int (0))) n (Ms h0 m (sthr M 1))) := by
  refine Con.of (by decide +kernel) (Nat.le_of_ble_eq_true rfl) ?_
  refine mj_aload_n 0 dX11_stopCount_0 rfl ?_
  refine mj_iconst (v := 0) dX11_stopCount_1 rfl ?_
  refine mS_pthr dX11_stopCount_2 fgX11_61 x (fun h x => ?_)
  refine mj_aload_n 0 dX11_stopCount_5 rfl ?_
  refine mj_iload_n 1 dX11_stopCount_6 rfl ?_
  refine mS_cV1 x [_] dX11_stopCount_7 cwX11_isDriver lkX11_87 rfl rfl rfl (cs_isDriver x) ⟨Nat.le_of_ble_eq_true rfl, Nat.le_of_ble_eq_true rfl, Nat.le_of_ble_eq_true rfl, Nat.le_of_ble_eq_true rfl, Nat.le_of_ble_eq_true rfl⟩ (fun h x => ?_)
  refine mj_if_eq 25 dX11_stopCount_10 (by decide) (fun c_10 => ?_) (fun c_10 => ?_)
  · refine mj_aload_n 0 dX11_stopCount_25 rfl ?_
    refine mj_iconst (v := 1) dX11_stopCount_26 rfl ?_
    refine mS_cV1 x [_] dX11_stopCount_27 cwX11_fail lkX11_79 rfl rfl rfl (cs_fail x (v := 1)) ⟨Nat.le_of_ble_eq_true rfl, Nat.le_of_ble_eq_true rfl, Nat.le_of_ble_eq_true rfl, Nat.le_of_ble_eq_true rfl, Nat.le_of_ble_eq_true rfl⟩ (fun h x => ?_)
    exact mj_iret dX11_stopCount_30 rfl (Nat.le_of_ble_eq_true rfl) (Nat.le_of_ble_eq_true rfl) ⟨rfl, rfl, (by rw [sthr_ss] at x; exact x)⟩
  · exact absurd ((bI_n0.mp c_10).symm.trans hb) (by decide)
set_option maxRecDepth 100000 in
set_option maxHeartbeats 4000000 in
theorem cs_stopCount {K : KX} {n : Nat} {h : MH} {h0 : MH} {m : Nat} {M : MS} (x : Ms h0 m M h) {d : Nat} (hd : d < 8) (hb : b_in (nI d) 0 (gbrd M 1 - 1) = true) : Con K mX11_stopCount [.ref m, .int (nI d)] 0 0 n h (RetP (some (.int (gd (gbrd M) d 9 + 2))) n (Ms h0 m (sthr M 0))) := by
  refine Con.of (by decide +kernel) (Nat.le_of_ble_eq_true rfl) ?_
  refine mj_aload_n 0 dX11_stopCount_0 rfl ?_
  refine mj_iconst (v := 0) dX11_stopCount_1 rfl ?_
  refine mS_pthr dX11_stopCount_2 fgX11_61 x (fun h x => ?_)
  refine mj_aload_n 0 dX11_stopCount_5 rfl ?_
  refine mj_iload_n 1 dX11_stopCount_6 rfl ?_
  refine mS_cV1 x [_] dX11_stopCount_7 cwX11_isDriver lkX11_87 rfl rfl rfl (cs_isDriver x) ⟨Nat.le_of_ble_eq_true rfl, Nat.le_of_ble_eq_true rfl, Nat.le_of_ble_eq_true rfl, Nat.le_of_ble_eq_true rfl, Nat.le_of_ble_eq_true rfl⟩ (fun h x => ?_)
  refine mj_if_eq 25 dX11_stopCount_10 (by decide) (fun c_10 => ?_) (fun c_10 => ?_)
  · exact absurd ((bI_0.mp c_10).symm.trans hb) (by decide)
  · refine mj_aload_n 0 dX11_stopCount_13 rfl ?_
    refine mj_iload_n 1 dX11_stopCount_14 rfl ?_
    refine mj_bipush (v := (9)) dX11_stopCount_15 rfl ?_
    refine mS_cV1 x [_, _] dX11_stopCount_17 cwX11_driver lkX11_68 rfl rfl rfl (cs_driver x (d := d) (f := 9) hd (by decide)) ⟨Nat.le_of_ble_eq_true rfl, Nat.le_of_ble_eq_true rfl, Nat.le_of_ble_eq_true rfl, Nat.le_of_ble_eq_true rfl, Nat.le_of_ble_eq_true rfl⟩ (fun h x => ?_)
    refine mj_iconst (v := 2) dX11_stopCount_20 rfl ?_
    refine mj_iadd dX11_stopCount_21 ?_
    refine mj_goto 30 dX11_stopCount_22 (by decide) ?_
    exact mj_iret dX11_stopCount_30 rfl (Nat.le_of_ble_eq_true rfl) (Nat.le_of_ble_eq_true rfl) ⟨rfl, rfl, x⟩
set_option maxRecDepth 100000 in
set_option maxHeartbeats 4000000 in
theorem cs_isStop_nod {K : KX} {n : Nat} {h : MH} {h0 : MH} {m : Nat} {M : MS} (x : Ms h0 m M h) {i j : Int32} (hb : b_in i 0 (gbrd M 1 - 1) = false) : Con K mX11_isStop [.ref m, .int i, .int j] 0 0 n h (RetP (some (.int (0))) n (Ms h0 m (M))) := by
  refine Con.of (by decide +kernel) (Nat.le_of_ble_eq_true rfl) ?_
  refine mj_aload_n 0 dX11_isStop_0 rfl ?_
  refine mj_iload_n 1 dX11_isStop_1 rfl ?_
  refine mS_cV1 x [_] dX11_isStop_2 cwX11_isDriver lkX11_87 rfl rfl rfl (cs_isDriver x) ⟨Nat.le_of_ble_eq_true rfl, Nat.le_of_ble_eq_true rfl, Nat.le_of_ble_eq_true rfl, Nat.le_of_ble_eq_true rfl, Nat.le_of_ble_eq_true rfl⟩ (fun h x => ?_)
  refine mj_if_eq 29 dX11_isStop_5 (by decide) (fun c_5 => ?_) (fun c_5 => ?_)
  · refine mj_iconst (v := 0) dX11_isStop_29 rfl ?_
    exact mj_zret dX11_isStop_30 rfl (by first | exact Or.inl rfl | exact Or.inr rfl) (Nat.le_of_ble_eq_true rfl) (Nat.le_of_ble_eq_true rfl) ⟨rfl, rfl, x⟩
  · exact absurd ((bI_n0.mp c_5).symm.trans hb) (by decide)
set_option maxRecDepth 100000 in
set_option maxHeartbeats 4000000 in
theorem cs_isStop {K : KX} {n : Nat} {h : MH} {h0 : MH} {m : Nat} {M : MS} (x : Ms h0 m M h) {d : Nat} (hd : d < 8) (hb : b_in (nI d) 0 (gbrd M 1 - 1) = true) {j : Int32} : Con K mX11_isStop [.ref m, .int (nI d), .int j] 0 0 n h (RetP (some (.int (bI (b_in j 0 (gd (gbrd M) d 9 + 1))))) n (Ms h0 m (M))) := by
  refine Con.of (by decide +kernel) (Nat.le_of_ble_eq_true rfl) ?_
  refine mj_aload_n 0 dX11_isStop_0 rfl ?_
  refine mj_iload_n 1 dX11_isStop_1 rfl ?_
  refine mS_cV1 x [_] dX11_isStop_2 cwX11_isDriver lkX11_87 rfl rfl rfl (cs_isDriver x) ⟨Nat.le_of_ble_eq_true rfl, Nat.le_of_ble_eq_true rfl, Nat.le_of_ble_eq_true rfl, Nat.le_of_ble_eq_true rfl, Nat.le_of_ble_eq_true rfl⟩ (fun h x => ?_)
  refine mj_if_eq 29 dX11_isStop_5 (by decide) (fun c_5 => ?_) (fun c_5 => ?_)
  · exact absurd ((bI_0.mp c_5).symm.trans hb) (by decide)
  · refine mj_iload_n 2 dX11_isStop_8 rfl ?_
    refine mj_iconst (v := 0) dX11_isStop_9 rfl ?_
    refine mj_aload_n 0 dX11_isStop_10 rfl ?_
    refine mj_iload_n 1 dX11_isStop_11 rfl ?_
    refine mj_bipush (v := (9)) dX11_isStop_12 rfl ?_
    refine mS_cV1 x [_, _] dX11_isStop_14 cwX11_driver lkX11_68 rfl rfl rfl (cs_driver x (d := d) (f := 9) hd (by decide)) ⟨Nat.le_of_ble_eq_true rfl, Nat.le_of_ble_eq_true rfl, Nat.le_of_ble_eq_true rfl, Nat.le_of_ble_eq_true rfl, Nat.le_of_ble_eq_true rfl⟩ (fun h x => ?_)
    refine mj_iconst (v := 1) dX11_isStop_17 rfl ?_
    refine mj_iadd dX11_isStop_18 ?_
    refine mj_cS1 [_, _, _] dX11_isStop_19 cwX11_isBetween lkX11_64 rfl (cn_X11_isBetween _ _ _) ⟨Nat.le_of_ble_eq_true rfl, Nat.le_of_ble_eq_true rfl, Nat.le_of_ble_eq_true rfl, Nat.le_of_ble_eq_true rfl, Nat.le_of_ble_eq_true rfl⟩ (fun h' e' => ?_)
    subst h'
    refine mj_if_eq 29 dX11_isStop_22 (by decide) (fun c_22 => ?_) (fun c_22 => ?_)
    · have z := bI_0.mp c_22
      refine mj_iconst (v := 0) dX11_isStop_29 rfl ?_
      exact mj_zret dX11_isStop_30 rfl (by first | exact Or.inl rfl | exact Or.inr rfl) (Nat.le_of_ble_eq_true rfl) (Nat.le_of_ble_eq_true rfl) ⟨(by rw [show b_in j 0 (gd (gbrd M) d 9 + 1) = _ from z]; rfl), rfl, x⟩
    · have z := bI_n0.mp c_22
      refine mj_iconst (v := 1) dX11_isStop_25 rfl ?_
      refine mj_goto 30 dX11_isStop_26 (by decide) ?_
      exact mj_zret dX11_isStop_30 rfl (by first | exact Or.inl rfl | exact Or.inr rfl) (Nat.le_of_ble_eq_true rfl) (Nat.le_of_ble_eq_true rfl) ⟨(by rw [show b_in j 0 (gd (gbrd M) d 9 + 1) = _ from z]; rfl), rfl, x⟩
def w_stop (l : List Int32) (t : Nat) : Int32 := if t = 0 then -1 else if t = l.length + 1 then -1 else l.getD (t - 1) 0
set_option maxRecDepth 100000 in
set_option maxHeartbeats 4000000 in
theorem cs_stopRider_nod {K : KX} {n : Nat} {h : MH} {h0 : MH} {m : Nat} {M : MS} (x : Ms h0 m M h) {i j : Int32} (hb : b_in i 0 (gbrd M 1 - 1) = false) : Con K mX11_stopRider [.ref m, .int i, .int j] 0 0 n h (RetP (some (.int (0))) n (Ms h0 m (sthr M 1))) := by
  refine Con.of (by decide +kernel) (Nat.le_of_ble_eq_true rfl) ?_
  refine mj_aload_n 0 dX11_stopRider_0 rfl ?_
  refine mj_iconst (v := 0) dX11_stopRider_1 rfl ?_
  refine mS_pthr dX11_stopRider_2 fgX11_61 x (fun h x => ?_)
  refine mj_aload_n 0 dX11_stopRider_5 rfl ?_
  refine mj_iload_n 1 dX11_stopRider_6 rfl ?_
  refine mj_iload_n 2 dX11_stopRider_7 rfl ?_
  refine mS_cV1 x [_, _] dX11_stopRider_8 cwX11_isStop lkX11_160 rfl rfl rfl (cs_isStop_nod x hb) ⟨Nat.le_of_ble_eq_true rfl, Nat.le_of_ble_eq_true rfl, Nat.le_of_ble_eq_true rfl, Nat.le_of_ble_eq_true rfl, Nat.le_of_ble_eq_true rfl⟩ (fun h x => ?_)
  refine mj_if_ne 20 dX11_stopRider_11 (by decide) (fun c_11 => ?_) (fun c_11 => ?_)
  · exact absurd rfl c_11
  · refine mj_aload_n 0 dX11_stopRider_14 rfl ?_
    refine mj_iconst (v := 1) dX11_stopRider_15 rfl ?_
    refine mS_cV1 x [_] dX11_stopRider_16 cwX11_fail lkX11_79 rfl rfl rfl (cs_fail x (v := 1)) ⟨Nat.le_of_ble_eq_true rfl, Nat.le_of_ble_eq_true rfl, Nat.le_of_ble_eq_true rfl, Nat.le_of_ble_eq_true rfl, Nat.le_of_ble_eq_true rfl⟩ (fun h x => ?_)
    exact mj_iret dX11_stopRider_19 rfl (Nat.le_of_ble_eq_true rfl) (Nat.le_of_ble_eq_true rfl) ⟨rfl, rfl, (by rw [sthr_ss] at x; exact x)⟩
set_option maxRecDepth 100000 in
set_option maxHeartbeats 4000000 in
theorem cs_stopRider_nos {K : KX} {n : Nat} {h : MH} {h0 : MH} {m : Nat} {M : MS} (x : Ms h0 m M h) {d : Nat} (hd : d < 8) (hb : b_in (nI d) 0 (gbrd M 1 - 1) = true) {j : Int32} (hj : b_in j 0 (gd (gbrd M) d 9 + 1) = false) : Con K mX11_stopRider [.ref m, .int (nI d), .int j] 0 0 n h (RetP (some (.int (0))) n (Ms h0 m (sthr M 1))) := by
  refine Con.of (by decide +kernel) (Nat.le_of_ble_eq_true rfl) ?_
  refine mj_aload_n 0 dX11_stopRider_0 rfl ?_
  refine mj_iconst (v := 0) dX11_stopRider_1 rfl ?_
  refine mS_pthr dX11_stopRider_2 fgX11_61 x (fun h x => ?_)
  refine mj_aload_n 0 dX11_stopRider_5 rfl ?_
  refine mj_iload_n 1 dX11_stopRider_6 rfl ?_
  refine mj_iload_n 2 dX11_stopRider_7 rfl ?_
  refine mS_cV1 x [_, _] dX11_stopRider_8 cwX11_isStop lkX11_160 rfl rfl rfl (cs_isStop x hd hb) ⟨Nat.le_of_ble_eq_true rfl, Nat.le_of_ble_eq_true rfl, Nat.le_of_ble_eq_true rfl, Nat.le_of_ble_eq_true rfl, Nat.le_of_ble_eq_true rfl⟩ (fun h x => ?_)
  refine mj_if_ne 20 dX11_stopRider_11 (by decide) (fun c_11 => ?_) (fun c_11 => ?_)
  · exact absurd ((bI_n0.mp c_11).symm.trans hj) (by decide)
  · refine mj_aload_n 0 dX11_stopRider_14 rfl ?_
    refine mj_iconst (v := 1) dX11_stopRider_15 rfl ?_
    refine mS_cV1 x [_] dX11_stopRider_16 cwX11_fail lkX11_79 rfl rfl rfl (cs_fail x (v := 1)) ⟨Nat.le_of_ble_eq_true rfl, Nat.le_of_ble_eq_true rfl, Nat.le_of_ble_eq_true rfl, Nat.le_of_ble_eq_true rfl, Nat.le_of_ble_eq_true rfl⟩ (fun h x => ?_)
    exact mj_iret dX11_stopRider_19 rfl (Nat.le_of_ble_eq_true rfl) (Nat.le_of_ble_eq_true rfl) ⟨rfl, rfl, (by rw [sthr_ss] at x; exact x)⟩
set_option maxRecDepth 100000 in
set_option maxHeartbeats 4000000 in
theorem cs_stopRider {K : KX} {n : Nat} {h : MH} {h0 : MH} {m : Nat} {M : MS} (x : Ms h0 m M h) {d : Nat} (hd : d < 8) (hb : b_in (nI d) 0 (gbrd M 1 - 1) = true) {l : List Int32} (hg : Rok (gbrd M) d l) {t : Nat} (hj : b_in (nI t) 0 (gd (gbrd M) d 9 + 1) = true) (ht : t ≤ l.length + 1) : Con K mX11_stopRider [.ref m, .int (nI d), .int (nI t)] 0 0 n h (RetP (some (.int (w_stop l t))) n (Ms h0 m (sthr M 0))) := by
  refine Con.of (by decide +kernel) (Nat.le_of_ble_eq_true rfl) ?_
  have hll := hg.2.2.1
  refine mj_aload_n 0 dX11_stopRider_0 rfl ?_
  refine mj_iconst (v := 0) dX11_stopRider_1 rfl ?_
  refine mS_pthr dX11_stopRider_2 fgX11_61 x (fun h x => ?_)
  refine mj_aload_n 0 dX11_stopRider_5 rfl ?_
  refine mj_iload_n 1 dX11_stopRider_6 rfl ?_
  refine mj_iload_n 2 dX11_stopRider_7 rfl ?_
  refine mS_cV1 x [_, _] dX11_stopRider_8 cwX11_isStop lkX11_160 rfl rfl rfl (cs_isStop x hd hb) ⟨Nat.le_of_ble_eq_true rfl, Nat.le_of_ble_eq_true rfl, Nat.le_of_ble_eq_true rfl, Nat.le_of_ble_eq_true rfl, Nat.le_of_ble_eq_true rfl⟩ (fun h x => ?_)
  refine mj_if_ne 20 dX11_stopRider_11 (by decide) (fun c_11 => ?_) (fun c_11 => ?_)
  · refine mj_iload_n 2 dX11_stopRider_20 rfl ?_
    refine mj_if_eq 37 dX11_stopRider_21 (by decide) (fun c_21 => ?_) (fun c_21 => ?_)
    · have z0 : t = 0 := (nI_inj (by omega) (by omega)).mp (show nI t = nI 0 from c_21)
      refine mj_iconst (v := (-1)) dX11_stopRider_37 rfl ?_
      refine mj_goto 49 dX11_stopRider_38 (by decide) ?_
      exact mj_iret dX11_stopRider_49 rfl (Nat.le_of_ble_eq_true rfl) (Nat.le_of_ble_eq_true rfl) ⟨(by unfold w_stop; rw [if_pos z0]), rfl, x⟩
    · have z0 : ¬ t = 0 := fun q => c_21 (by rw [q]; rfl)
      refine mj_iload_n 2 dX11_stopRider_24 rfl ?_
      refine mj_aload_n 0 dX11_stopRider_25 rfl ?_
      refine mj_iload_n 1 dX11_stopRider_26 rfl ?_
      refine mj_bipush (v := (9)) dX11_stopRider_27 rfl ?_
      refine mS_cV1 x [_, _] dX11_stopRider_29 cwX11_driver lkX11_68 rfl rfl rfl (cs_driver x (d := d) (f := 9) hd (by decide)) ⟨Nat.le_of_ble_eq_true rfl, Nat.le_of_ble_eq_true rfl, Nat.le_of_ble_eq_true rfl, Nat.le_of_ble_eq_true rfl, Nat.le_of_ble_eq_true rfl⟩ (fun h x => ?_)
      refine mj_eq (hg.1) ?_
      refine mj_iconst (v := 1) dX11_stopRider_32 rfl ?_
      refine mj_iadd dX11_stopRider_33 ?_
      refine mj_eq (nI_1 _) ?_
      refine mj_icmp_ne 41 dX11_stopRider_34 (by decide) (fun c_34 => ?_) (fun c_34 => ?_)
      · have z1 : ¬ t = l.length + 1 := fun q => c_34 (by rw [q])
        refine mj_aload_n 0 dX11_stopRider_41 rfl ?_
        refine mj_iload_n 1 dX11_stopRider_42 rfl ?_
        refine mj_iload_n 2 dX11_stopRider_43 rfl ?_
        refine mj_iconst (v := 1) dX11_stopRider_44 rfl ?_
        refine mj_isub dX11_stopRider_45 ?_
        refine mj_eq ((show nI t - 1 = nI (t - 1) by rw [show t = (t - 1) + 1 by omega, nI_p]; rfl)) ?_
        refine mS_cV1 x [_, _] dX11_stopRider_46 cwX11_stop lkX11_149 rfl rfl rfl (cs_stop x (d := d) (i := t - 1) hd (by omega)) ⟨Nat.le_of_ble_eq_true rfl, Nat.le_of_ble_eq_true rfl, Nat.le_of_ble_eq_true rfl, Nat.le_of_ble_eq_true rfl, Nat.le_of_ble_eq_true rfl⟩ (fun h x => ?_)
        refine mj_eq (hg.2.g (show t - 1 < l.length by omega)) ?_
        exact mj_iret dX11_stopRider_49 rfl (Nat.le_of_ble_eq_true rfl) (Nat.le_of_ble_eq_true rfl) ⟨(by unfold w_stop; rw [if_neg z0, if_neg z1]), rfl, x⟩
      · have z1 : t = l.length + 1 := (nI_inj (by omega) (by omega)).mp c_34
        refine mj_iconst (v := (-1)) dX11_stopRider_37 rfl ?_
        refine mj_goto 49 dX11_stopRider_38 (by decide) ?_
        exact mj_iret dX11_stopRider_49 rfl (Nat.le_of_ble_eq_true rfl) (Nat.le_of_ble_eq_true rfl) ⟨(by unfold w_stop; rw [if_neg z0, if_pos z1]), rfl, x⟩
  · exact absurd ((bI_0.mp c_11).symm.trans hj) (by decide)
set_option maxRecDepth 100000 in
set_option maxHeartbeats 4000000 in
theorem cs_arrival_nod {K : KX} {n : Nat} {h : MH} {h0 : MH} {m : Nat} {M : MS} (x : Ms h0 m M h) {i j : Int32} (hb : b_in i 0 (gbrd M 1 - 1) = false) : Con K mX11_arrival [.ref m, .int i, .int j] 0 0 n h (RetP (some (.int (0))) n (Ms h0 m (sthr M 1))) := by
  refine Con.of (by decide +kernel) (Nat.le_of_ble_eq_true rfl) ?_
  refine mj_aload_n 0 dX11_arrival_0 rfl ?_
  refine mj_iconst (v := 0) dX11_arrival_1 rfl ?_
  refine mS_pthr dX11_arrival_2 fgX11_61 x (fun h x => ?_)
  refine mj_aload_n 0 dX11_arrival_5 rfl ?_
  refine mj_iload_n 1 dX11_arrival_6 rfl ?_
  refine mj_iload_n 2 dX11_arrival_7 rfl ?_
  refine mS_cV1 x [_, _] dX11_arrival_8 cwX11_isStop lkX11_160 rfl rfl rfl (cs_isStop_nod x hb) ⟨Nat.le_of_ble_eq_true rfl, Nat.le_of_ble_eq_true rfl, Nat.le_of_ble_eq_true rfl, Nat.le_of_ble_eq_true rfl, Nat.le_of_ble_eq_true rfl⟩ (fun h x => ?_)
  refine mj_if_ne 20 dX11_arrival_11 (by decide) (fun c_11 => ?_) (fun c_11 => ?_)
  · exact absurd rfl c_11
  · refine mj_aload_n 0 dX11_arrival_14 rfl ?_
    refine mj_iconst (v := 1) dX11_arrival_15 rfl ?_
    refine mS_cV1 x [_] dX11_arrival_16 cwX11_fail lkX11_79 rfl rfl rfl (cs_fail x (v := 1)) ⟨Nat.le_of_ble_eq_true rfl, Nat.le_of_ble_eq_true rfl, Nat.le_of_ble_eq_true rfl, Nat.le_of_ble_eq_true rfl, Nat.le_of_ble_eq_true rfl⟩ (fun h x => ?_)
    exact mj_iret dX11_arrival_19 rfl (Nat.le_of_ble_eq_true rfl) (Nat.le_of_ble_eq_true rfl) ⟨rfl, rfl, (by rw [sthr_ss] at x; exact x)⟩
set_option maxRecDepth 100000 in
set_option maxHeartbeats 4000000 in
theorem cs_arrival_nos {K : KX} {n : Nat} {h : MH} {h0 : MH} {m : Nat} {M : MS} (x : Ms h0 m M h) {d : Nat} (hd : d < 8) (hb : b_in (nI d) 0 (gbrd M 1 - 1) = true) {j : Int32} (hj : b_in j 0 (gd (gbrd M) d 9 + 1) = false) : Con K mX11_arrival [.ref m, .int (nI d), .int j] 0 0 n h (RetP (some (.int (0))) n (Ms h0 m (sthr M 1))) := by
  refine Con.of (by decide +kernel) (Nat.le_of_ble_eq_true rfl) ?_
  refine mj_aload_n 0 dX11_arrival_0 rfl ?_
  refine mj_iconst (v := 0) dX11_arrival_1 rfl ?_
  refine mS_pthr dX11_arrival_2 fgX11_61 x (fun h x => ?_)
  refine mj_aload_n 0 dX11_arrival_5 rfl ?_
  refine mj_iload_n 1 dX11_arrival_6 rfl ?_
  refine mj_iload_n 2 dX11_arrival_7 rfl ?_
  refine mS_cV1 x [_, _] dX11_arrival_8 cwX11_isStop lkX11_160 rfl rfl rfl (cs_isStop x hd hb) ⟨Nat.le_of_ble_eq_true rfl, Nat.le_of_ble_eq_true rfl, Nat.le_of_ble_eq_true rfl, Nat.le_of_ble_eq_true rfl, Nat.le_of_ble_eq_true rfl⟩ (fun h x => ?_)
  refine mj_if_ne 20 dX11_arrival_11 (by decide) (fun c_11 => ?_) (fun c_11 => ?_)
  · exact absurd ((bI_n0.mp c_11).symm.trans hj) (by decide)
  · refine mj_aload_n 0 dX11_arrival_14 rfl ?_
    refine mj_iconst (v := 1) dX11_arrival_15 rfl ?_
    refine mS_cV1 x [_] dX11_arrival_16 cwX11_fail lkX11_79 rfl rfl rfl (cs_fail x (v := 1)) ⟨Nat.le_of_ble_eq_true rfl, Nat.le_of_ble_eq_true rfl, Nat.le_of_ble_eq_true rfl, Nat.le_of_ble_eq_true rfl, Nat.le_of_ble_eq_true rfl⟩ (fun h x => ?_)
    exact mj_iret dX11_arrival_19 rfl (Nat.le_of_ble_eq_true rfl) (Nat.le_of_ble_eq_true rfl) ⟨rfl, rfl, (by rw [sthr_ss] at x; exact x)⟩
set_option maxRecDepth 100000 in
set_option maxHeartbeats 4000000 in
theorem cs_arrival {K : KX} {n : Nat} {h : MH} {h0 : MH} {m : Nat} {M : MS} (x : Ms h0 m M h) {d : Nat} (hd : d < 8) (hb : b_in (nI d) 0 (gbrd M 1 - 1) = true) {l : List Int32} (hg : Rok (gbrd M) d l) {t : Nat} (hj : b_in (nI t) 0 (gd (gbrd M) d 9 + 1) = true) (ht : t ≤ l.length + 1) : Con K mX11_arrival [.ref m, .int (nI d), .int (nI t)] 0 0 n h (RetP (some (.int (w_arr (gbrd M) d l t))) n (Ms h0 m (sthr M 0))) := by
  refine Con.of (by decide +kernel) (Nat.le_of_ble_eq_true rfl) ?_
  have hll := hg.2.2.1
  refine mj_aload_n 0 dX11_arrival_0 rfl ?_
  refine mj_iconst (v := 0) dX11_arrival_1 rfl ?_
  refine mS_pthr dX11_arrival_2 fgX11_61 x (fun h x => ?_)
  refine mj_aload_n 0 dX11_arrival_5 rfl ?_
  refine mj_iload_n 1 dX11_arrival_6 rfl ?_
  refine mj_iload_n 2 dX11_arrival_7 rfl ?_
  refine mS_cV1 x [_, _] dX11_arrival_8 cwX11_isStop lkX11_160 rfl rfl rfl (cs_isStop x hd hb) ⟨Nat.le_of_ble_eq_true rfl, Nat.le_of_ble_eq_true rfl, Nat.le_of_ble_eq_true rfl, Nat.le_of_ble_eq_true rfl, Nat.le_of_ble_eq_true rfl⟩ (fun h x => ?_)
  have x8 := x
  refine mj_if_ne 20 dX11_arrival_11 (by decide) (fun c_11 => ?_) (fun c_11 => ?_)
  · obtain ⟨M1, x, sc⟩ := x
    refine mj_aload_n 0 dX11_arrival_20 rfl ?_
    refine mj_iload_n 1 dX11_arrival_21 rfl ?_
    refine mj_iconst (v := (-1)) dX11_arrival_22 rfl ?_
    refine mj_cV0 [_, _] (RX11, TX11, 32) dX11_arrival_23 cwX11_takeRoute lkX11_156 x.ko rfl rfl rfl rfl (cr_takeRoute x (wo := -1) hd (by rw [show gbrd M1 = gbrd M from sc.b]; exact hg)) ⟨Nat.le_of_ble_eq_true rfl, Nat.le_of_ble_eq_true rfl, Nat.le_of_ble_eq_true rfl, Nat.le_of_ble_eq_true rfl, Nat.le_of_ble_eq_true rfl⟩ (fun h x => ?_)
    obtain ⟨M2, x, me⟩ := x
    have e1 : gbrd M1 = gbrd M := sc.b
    rw [w_wo_none hg.2.2.2] at me
    refine mj_aload_n 0 dX11_arrival_26 rfl ?_
    refine mj_getf dX11_arrival_27 fgX11_36 x.ko rfl ?_
    refine mj_iload_n 2 dX11_arrival_30 rfl ?_
    refine mj_iald x.karr (ixn (by omega)) (by omega) dX11_arrival_31 ?_
    refine mj_eq ((show garr M2 t = w_arr (gbrd M) d l t by rw [← e1]; exact me.2.2.2.2 t ht)) ?_
    exact mj_iret dX11_arrival_32 rfl (Nat.le_of_ble_eq_true rfl) (Nat.le_of_ble_eq_true rfl) ⟨rfl, rfl, ⟨M2, x, sc.tr me.1.up⟩⟩
  · exact absurd ((bI_0.mp c_11).symm.trans hj) (by decide)
set_option maxRecDepth 100000 in
set_option maxHeartbeats 4000000 in
theorem cs_routeLength_no {K : KX} {n : Nat} {h : MH} {h0 : MH} {m : Nat} {M : MS} (x : Ms h0 m M h) {i : Int32} (hb : b_in i 0 (gbrd M 1 - 1) = false) : Con K mX11_routeLength [.ref m, .int i] 0 0 n h (RetP (some (.int (0))) n (Ms h0 m (sthr M 1))) := by
  refine Con.of (by decide +kernel) (Nat.le_of_ble_eq_true rfl) ?_
  refine mj_aload_n 0 dX11_routeLength_0 rfl ?_
  refine mj_iconst (v := 0) dX11_routeLength_1 rfl ?_
  refine mS_pthr dX11_routeLength_2 fgX11_61 x (fun h x => ?_)
  refine mj_aload_n 0 dX11_routeLength_5 rfl ?_
  refine mj_iload_n 1 dX11_routeLength_6 rfl ?_
  refine mS_cV1 x [_] dX11_routeLength_7 cwX11_isDriver lkX11_87 rfl rfl rfl (cs_isDriver x) ⟨Nat.le_of_ble_eq_true rfl, Nat.le_of_ble_eq_true rfl, Nat.le_of_ble_eq_true rfl, Nat.le_of_ble_eq_true rfl, Nat.le_of_ble_eq_true rfl⟩ (fun h x => ?_)
  refine mj_if_eq 21 dX11_routeLength_10 (by decide) (fun c_10 => ?_) (fun c_10 => ?_)
  · refine mj_aload_n 0 dX11_routeLength_21 rfl ?_
    refine mj_iconst (v := 1) dX11_routeLength_22 rfl ?_
    refine mS_cV1 x [_] dX11_routeLength_23 cwX11_fail lkX11_79 rfl rfl rfl (cs_fail x (v := 1)) ⟨Nat.le_of_ble_eq_true rfl, Nat.le_of_ble_eq_true rfl, Nat.le_of_ble_eq_true rfl, Nat.le_of_ble_eq_true rfl, Nat.le_of_ble_eq_true rfl⟩ (fun h x => ?_)
    exact mj_iret dX11_routeLength_26 rfl (Nat.le_of_ble_eq_true rfl) (Nat.le_of_ble_eq_true rfl) ⟨rfl, rfl, (by rw [sthr_ss] at x; exact x)⟩
  · exact absurd ((bI_n0.mp c_10).symm.trans hb) (by decide)
set_option maxRecDepth 100000 in
set_option maxHeartbeats 4000000 in
theorem cs_routeLength {K : KX} {n : Nat} {h : MH} {h0 : MH} {m : Nat} {M : MS} (x : Ms h0 m M h) {d : Nat} (hd : d < 8) (hb : b_in (nI d) 0 (gbrd M 1 - 1) = true) {l : List Int32} (hg : Rok (gbrd M) d l) : Con K mX11_routeLength [.ref m, .int (nI d)] 0 0 n h (RetP (some (.int (w_len (gbrd M) d l))) n (Ms h0 m (sthr M 0))) := by
  refine Con.of (by decide +kernel) (Nat.le_of_ble_eq_true rfl) ?_
  refine mj_aload_n 0 dX11_routeLength_0 rfl ?_
  refine mj_iconst (v := 0) dX11_routeLength_1 rfl ?_
  refine mS_pthr dX11_routeLength_2 fgX11_61 x (fun h x => ?_)
  refine mj_aload_n 0 dX11_routeLength_5 rfl ?_
  refine mj_iload_n 1 dX11_routeLength_6 rfl ?_
  refine mS_cV1 x [_] dX11_routeLength_7 cwX11_isDriver lkX11_87 rfl rfl rfl (cs_isDriver x) ⟨Nat.le_of_ble_eq_true rfl, Nat.le_of_ble_eq_true rfl, Nat.le_of_ble_eq_true rfl, Nat.le_of_ble_eq_true rfl, Nat.le_of_ble_eq_true rfl⟩ (fun h x => ?_)
  refine mj_if_eq 21 dX11_routeLength_10 (by decide) (fun c_10 => ?_) (fun c_10 => ?_)
  · exact absurd ((bI_0.mp c_10).symm.trans hb) (by decide)
  · refine mj_aload_n 0 dX11_routeLength_13 rfl ?_
    refine mj_iload_n 1 dX11_routeLength_14 rfl ?_
    refine mS_cV1 x [_] dX11_routeLength_15 cwX11_lengthOf lkX11_163 rfl rfl rfl (cs_lengthOf x hd hg) ⟨Nat.le_of_ble_eq_true rfl, Nat.le_of_ble_eq_true rfl, Nat.le_of_ble_eq_true rfl, Nat.le_of_ble_eq_true rfl, Nat.le_of_ble_eq_true rfl⟩ (fun h x => ?_)
    refine mj_goto 26 dX11_routeLength_18 (by decide) ?_
    exact mj_iret dX11_routeLength_26 rfl (Nat.le_of_ble_eq_true rfl) (Nat.le_of_ble_eq_true rfl) ⟨rfl, rfl, x⟩
set_option maxRecDepth 100000 in
set_option maxHeartbeats 4000000 in
theorem cs_detour_no {K : KX} {n : Nat} {h : MH} {h0 : MH} {m : Nat} {M : MS} (x : Ms h0 m M h) {i : Int32} (hb : b_in i 0 (gbrd M 1 - 1) = false) : Con K mX11_detour [.ref m, .int i] 0 0 n h (RetP (some (.int (0))) n (Ms h0 m (sthr M 1))) := by
  refine Con.of (by decide +kernel) (Nat.le_of_ble_eq_true rfl) ?_
  refine mj_aload_n 0 dX11_detour_0 rfl ?_
  refine mj_iconst (v := 0) dX11_detour_1 rfl ?_
  refine mS_pthr dX11_detour_2 fgX11_61 x (fun h x => ?_)
  refine mj_aload_n 0 dX11_detour_5 rfl ?_
  refine mj_iload_n 1 dX11_detour_6 rfl ?_
  refine mS_cV1 x [_] dX11_detour_7 cwX11_isDriver lkX11_87 rfl rfl rfl (cs_isDriver x) ⟨Nat.le_of_ble_eq_true rfl, Nat.le_of_ble_eq_true rfl, Nat.le_of_ble_eq_true rfl, Nat.le_of_ble_eq_true rfl, Nat.le_of_ble_eq_true rfl⟩ (fun h x => ?_)
  refine mj_if_eq 27 dX11_detour_10 (by decide) (fun c_10 => ?_) (fun c_10 => ?_)
  · refine mj_aload_n 0 dX11_detour_27 rfl ?_
    refine mj_iconst (v := 1) dX11_detour_28 rfl ?_
    refine mS_cV1 x [_] dX11_detour_29 cwX11_fail lkX11_79 rfl rfl rfl (cs_fail x (v := 1)) ⟨Nat.le_of_ble_eq_true rfl, Nat.le_of_ble_eq_true rfl, Nat.le_of_ble_eq_true rfl, Nat.le_of_ble_eq_true rfl, Nat.le_of_ble_eq_true rfl⟩ (fun h x => ?_)
    exact mj_iret dX11_detour_32 rfl (Nat.le_of_ble_eq_true rfl) (Nat.le_of_ble_eq_true rfl) ⟨rfl, rfl, (by rw [sthr_ss] at x; exact x)⟩
  · exact absurd ((bI_n0.mp c_10).symm.trans hb) (by decide)
set_option maxRecDepth 100000 in
set_option maxHeartbeats 4000000 in
theorem cs_detour {K : KX} {n : Nat} {h : MH} {h0 : MH} {m : Nat} {M : MS} (x : Ms h0 m M h) {d : Nat} (hd : d < 8) (hb : b_in (nI d) 0 (gbrd M 1 - 1) = true) {l : List Int32} (hg : Rok (gbrd M) d l) : Con K mX11_detour [.ref m, .int (nI d)] 0 0 n h (RetP (some (.int (w_len (gbrd M) d l - w_dir (gbrd M) d))) n (Ms h0 m (sthr M 0))) := by
  refine Con.of (by decide +kernel) (Nat.le_of_ble_eq_true rfl) ?_
  refine mj_aload_n 0 dX11_detour_0 rfl ?_
  refine mj_iconst (v := 0) dX11_detour_1 rfl ?_
  refine mS_pthr dX11_detour_2 fgX11_61 x (fun h x => ?_)
  refine mj_aload_n 0 dX11_detour_5 rfl ?_
  refine mj_iload_n 1 dX11_detour_6 rfl ?_
  refine mS_cV1 x [_] dX11_detour_7 cwX11_isDriver lkX11_87 rfl rfl rfl (cs_isDriver x) ⟨Nat.le_of_ble_eq_true rfl, Nat.le_of_ble_eq_true rfl, Nat.le_of_ble_eq_true rfl, Nat.le_of_ble_eq_true rfl, Nat.le_of_ble_eq_true rfl⟩ (fun h x => ?_)
  refine mj_if_eq 27 dX11_detour_10 (by decide) (fun c_10 => ?_) (fun c_10 => ?_)
  · exact absurd ((bI_0.mp c_10).symm.trans hb) (by decide)
  · refine mj_aload_n 0 dX11_detour_13 rfl ?_
    refine mj_iload_n 1 dX11_detour_14 rfl ?_
    refine mS_cV1 x [_] dX11_detour_15 cwX11_lengthOf lkX11_163 rfl rfl rfl (cs_lengthOf x hd hg) ⟨Nat.le_of_ble_eq_true rfl, Nat.le_of_ble_eq_true rfl, Nat.le_of_ble_eq_true rfl, Nat.le_of_ble_eq_true rfl, Nat.le_of_ble_eq_true rfl⟩ (fun h x => ?_)
    refine mj_aload_n 0 dX11_detour_18 rfl ?_
    refine mj_iload_n 1 dX11_detour_19 rfl ?_
    refine mS_cV1 x [_] dX11_detour_20 cwX11_directLength lkX11_102 rfl rfl rfl (cs_directLength x hd) ⟨Nat.le_of_ble_eq_true rfl, Nat.le_of_ble_eq_true rfl, Nat.le_of_ble_eq_true rfl, Nat.le_of_ble_eq_true rfl, Nat.le_of_ble_eq_true rfl⟩ (fun h x => ?_)
    refine mj_isub dX11_detour_23 ?_
    refine mj_goto 32 dX11_detour_24 (by decide) ?_
    exact mj_iret dX11_detour_32 rfl (Nat.le_of_ble_eq_true rfl) (Nat.le_of_ble_eq_true rfl) ⟨rfl, rfl, x⟩
set_option maxRecDepth 100000 in
set_option maxHeartbeats 4000000 in
theorem cs_tripCost_no {K : KX} {n : Nat} {h : MH} {h0 : MH} {m : Nat} {M : MS} (x : Ms h0 m M h) {i : Int32} (hb : b_in i 0 (gbrd M 1 - 1) = false) : Con K mX11_tripCost [.ref m, .int i] 0 0 n h (RetP (some (.int (0))) n (Ms h0 m (sthr M 1))) := by
  refine Con.of (by decide +kernel) (Nat.le_of_ble_eq_true rfl) ?_
  refine mj_aload_n 0 dX11_tripCost_0 rfl ?_
  refine mj_iconst (v := 0) dX11_tripCost_1 rfl ?_
  refine mS_pthr dX11_tripCost_2 fgX11_61 x (fun h x => ?_)
  refine mj_aload_n 0 dX11_tripCost_5 rfl ?_
  refine mj_iload_n 1 dX11_tripCost_6 rfl ?_
  refine mS_cV1 x [_] dX11_tripCost_7 cwX11_isDriver lkX11_87 rfl rfl rfl (cs_isDriver x) ⟨Nat.le_of_ble_eq_true rfl, Nat.le_of_ble_eq_true rfl, Nat.le_of_ble_eq_true rfl, Nat.le_of_ble_eq_true rfl, Nat.le_of_ble_eq_true rfl⟩ (fun h x => ?_)
  refine mj_if_eq 29 dX11_tripCost_10 (by decide) (fun c_10 => ?_) (fun c_10 => ?_)
  · refine mj_aload_n 0 dX11_tripCost_29 rfl ?_
    refine mj_iconst (v := 1) dX11_tripCost_30 rfl ?_
    refine mS_cV1 x [_] dX11_tripCost_31 cwX11_fail lkX11_79 rfl rfl rfl (cs_fail x (v := 1)) ⟨Nat.le_of_ble_eq_true rfl, Nat.le_of_ble_eq_true rfl, Nat.le_of_ble_eq_true rfl, Nat.le_of_ble_eq_true rfl, Nat.le_of_ble_eq_true rfl⟩ (fun h x => ?_)
    exact mj_iret dX11_tripCost_34 rfl (Nat.le_of_ble_eq_true rfl) (Nat.le_of_ble_eq_true rfl) ⟨rfl, rfl, (by rw [sthr_ss] at x; exact x)⟩
  · exact absurd ((bI_n0.mp c_10).symm.trans hb) (by decide)
set_option maxRecDepth 100000 in
set_option maxHeartbeats 4000000 in
theorem cs_tripCost {K : KX} {n : Nat} {h : MH} {h0 : MH} {m : Nat} {M : MS} (x : Ms h0 m M h) {d : Nat} (hd : d < 8) (hb : b_in (nI d) 0 (gbrd M 1 - 1) = true) {l : List Int32} (hg : Rok (gbrd M) d l) : Con K mX11_tripCost [.ref m, .int (nI d)] 0 0 n h (RetP (some (.int (w_len (gbrd M) d l * gd (gbrd M) d 7))) n (Ms h0 m (sthr M 0))) := by
  refine Con.of (by decide +kernel) (Nat.le_of_ble_eq_true rfl) ?_
  refine mj_aload_n 0 dX11_tripCost_0 rfl ?_
  refine mj_iconst (v := 0) dX11_tripCost_1 rfl ?_
  refine mS_pthr dX11_tripCost_2 fgX11_61 x (fun h x => ?_)
  refine mj_aload_n 0 dX11_tripCost_5 rfl ?_
  refine mj_iload_n 1 dX11_tripCost_6 rfl ?_
  refine mS_cV1 x [_] dX11_tripCost_7 cwX11_isDriver lkX11_87 rfl rfl rfl (cs_isDriver x) ⟨Nat.le_of_ble_eq_true rfl, Nat.le_of_ble_eq_true rfl, Nat.le_of_ble_eq_true rfl, Nat.le_of_ble_eq_true rfl, Nat.le_of_ble_eq_true rfl⟩ (fun h x => ?_)
  refine mj_if_eq 29 dX11_tripCost_10 (by decide) (fun c_10 => ?_) (fun c_10 => ?_)
  · exact absurd ((bI_0.mp c_10).symm.trans hb) (by decide)
  · refine mj_aload_n 0 dX11_tripCost_13 rfl ?_
    refine mj_iload_n 1 dX11_tripCost_14 rfl ?_
    refine mS_cV1 x [_] dX11_tripCost_15 cwX11_lengthOf lkX11_163 rfl rfl rfl (cs_lengthOf x hd hg) ⟨Nat.le_of_ble_eq_true rfl, Nat.le_of_ble_eq_true rfl, Nat.le_of_ble_eq_true rfl, Nat.le_of_ble_eq_true rfl, Nat.le_of_ble_eq_true rfl⟩ (fun h x => ?_)
    refine mj_aload_n 0 dX11_tripCost_18 rfl ?_
    refine mj_iload_n 1 dX11_tripCost_19 rfl ?_
    refine mj_bipush (v := (7)) dX11_tripCost_20 rfl ?_
    refine mS_cV1 x [_, _] dX11_tripCost_22 cwX11_driver lkX11_68 rfl rfl rfl (cs_driver x (d := d) (f := 7) hd (by decide)) ⟨Nat.le_of_ble_eq_true rfl, Nat.le_of_ble_eq_true rfl, Nat.le_of_ble_eq_true rfl, Nat.le_of_ble_eq_true rfl, Nat.le_of_ble_eq_true rfl⟩ (fun h x => ?_)
    refine mj_imul dX11_tripCost_25 ?_
    refine mj_goto 34 dX11_tripCost_26 (by decide) ?_
    exact mj_iret dX11_tripCost_34 rfl (Nat.le_of_ble_eq_true rfl) (Nat.le_of_ble_eq_true rfl) ⟨rfl, rfl, x⟩
set_option maxRecDepth 100000 in
set_option maxHeartbeats 4000000 in
theorem cs_extra_nor {K : KX} {n : Nat} {h : MH} {h0 : MH} {m : Nat} {M : MS} (x : Ms h0 m M h) {i j : Int32} (hb : b_in i 0 (gbrd M 2 - 1) = false) : Con K mX11_extra [.ref m, .int i, .int j] 0 0 n h (RetP (some (.int (0))) n (Ms h0 m (sthr M 1))) := by
  refine Con.of (by decide +kernel) (Nat.le_of_ble_eq_true rfl) ?_
  refine mj_aload_n 0 dX11_extra_0 rfl ?_
  refine mj_iconst (v := 0) dX11_extra_1 rfl ?_
  refine mS_pthr dX11_extra_2 fgX11_61 x (fun h x => ?_)
  refine mj_aload_n 0 dX11_extra_5 rfl ?_
  refine mj_iload_n 1 dX11_extra_6 rfl ?_
  refine mS_cV1 x [_] dX11_extra_7 cwX11_isRider lkX11_112 rfl rfl rfl (cs_isRider x) ⟨Nat.le_of_ble_eq_true rfl, Nat.le_of_ble_eq_true rfl, Nat.le_of_ble_eq_true rfl, Nat.le_of_ble_eq_true rfl, Nat.le_of_ble_eq_true rfl⟩ (fun h x => ?_)
  refine mj_if_eq 33 dX11_extra_10 (by decide) (fun c_10 => ?_) (fun c_10 => ?_)
  · refine mj_aload_n 0 dX11_extra_33 rfl ?_
    refine mj_iconst (v := 1) dX11_extra_34 rfl ?_
    refine mS_cV1 x [_] dX11_extra_35 cwX11_fail lkX11_79 rfl rfl rfl (cs_fail x (v := 1)) ⟨Nat.le_of_ble_eq_true rfl, Nat.le_of_ble_eq_true rfl, Nat.le_of_ble_eq_true rfl, Nat.le_of_ble_eq_true rfl, Nat.le_of_ble_eq_true rfl⟩ (fun h x => ?_)
    exact mj_iret dX11_extra_38 rfl (Nat.le_of_ble_eq_true rfl) (Nat.le_of_ble_eq_true rfl) ⟨rfl, rfl, (by rw [sthr_ss] at x; exact x)⟩
  · exact absurd ((bI_n0.mp c_10).symm.trans hb) (by decide)
set_option maxRecDepth 100000 in
set_option maxHeartbeats 4000000 in
theorem cs_extra_nod {K : KX} {n : Nat} {h : MH} {h0 : MH} {m : Nat} {M : MS} (x : Ms h0 m M h) {r : Nat} (hr : r < 20) (hb : b_in (nI r) 0 (gbrd M 2 - 1) = true) {j : Int32} (hj : b_in j 0 (gbrd M 1 - 1) = false) : Con K mX11_extra [.ref m, .int (nI r), .int j] 0 0 n h (RetP (some (.int (0))) n (Ms h0 m (sthr M 1))) := by
  refine Con.of (by decide +kernel) (Nat.le_of_ble_eq_true rfl) ?_
  refine mj_aload_n 0 dX11_extra_0 rfl ?_
  refine mj_iconst (v := 0) dX11_extra_1 rfl ?_
  refine mS_pthr dX11_extra_2 fgX11_61 x (fun h x => ?_)
  refine mj_aload_n 0 dX11_extra_5 rfl ?_
  refine mj_iload_n 1 dX11_extra_6 rfl ?_
  refine mS_cV1 x [_] dX11_extra_7 cwX11_isRider lkX11_112 rfl rfl rfl (cs_isRider x) ⟨Nat.le_of_ble_eq_true rfl, Nat.le_of_ble_eq_true rfl, Nat.le_of_ble_eq_true rfl, Nat.le_of_ble_eq_true rfl, Nat.le_of_ble_eq_true rfl⟩ (fun h x => ?_)
  refine mj_if_eq 33 dX11_extra_10 (by decide) (fun c_10 => ?_) (fun c_10 => ?_)
  · exact absurd ((bI_0.mp c_10).symm.trans hb) (by decide)
  · refine mj_aload_n 0 dX11_extra_13 rfl ?_
    refine mj_iload_n 2 dX11_extra_14 rfl ?_
    refine mS_cV1 x [_] dX11_extra_15 cwX11_isDriver lkX11_87 rfl rfl rfl (cs_isDriver x) ⟨Nat.le_of_ble_eq_true rfl, Nat.le_of_ble_eq_true rfl, Nat.le_of_ble_eq_true rfl, Nat.le_of_ble_eq_true rfl, Nat.le_of_ble_eq_true rfl⟩ (fun h x => ?_)
    refine mj_if_eq 33 dX11_extra_18 (by decide) (fun c_18 => ?_) (fun c_18 => ?_)
    · refine mj_aload_n 0 dX11_extra_33 rfl ?_
      refine mj_iconst (v := 1) dX11_extra_34 rfl ?_
      refine mS_cV1 x [_] dX11_extra_35 cwX11_fail lkX11_79 rfl rfl rfl (cs_fail x (v := 1)) ⟨Nat.le_of_ble_eq_true rfl, Nat.le_of_ble_eq_true rfl, Nat.le_of_ble_eq_true rfl, Nat.le_of_ble_eq_true rfl, Nat.le_of_ble_eq_true rfl⟩ (fun h x => ?_)
      exact mj_iret dX11_extra_38 rfl (Nat.le_of_ble_eq_true rfl) (Nat.le_of_ble_eq_true rfl) ⟨rfl, rfl, (by rw [sthr_ss] at x; exact x)⟩
    · exact absurd ((bI_n0.mp c_18).symm.trans hj) (by decide)
set_option maxRecDepth 100000 in
set_option maxHeartbeats 4000000 in
theorem cs_extra {K : KX} {n : Nat} {h : MH} {h0 : MH} {m : Nat} {M : MS} (x : Ms h0 m M h) {r : Nat} (hr : r < 20) (hb : b_in (nI r) 0 (gbrd M 2 - 1) = true) {d : Nat} (hd : d < 8) (hj : b_in (nI d) 0 (gbrd M 1 - 1) = true) {l : List Int32} (hg : Rok (gbrd M) d l) : Con K mX11_extra [.ref m, .int (nI r), .int (nI d)] 0 0 n h (RetP (some (.int (o_none (w_extra (gbrd M) r d l)))) n (Ms h0 m (sthr M 0))) := by
  refine Con.of (by decide +kernel) (Nat.le_of_ble_eq_true rfl) ?_
  refine mj_aload_n 0 dX11_extra_0 rfl ?_
  refine mj_iconst (v := 0) dX11_extra_1 rfl ?_
  refine mS_pthr dX11_extra_2 fgX11_61 x (fun h x => ?_)
  refine mj_aload_n 0 dX11_extra_5 rfl ?_
  refine mj_iload_n 1 dX11_extra_6 rfl ?_
  refine mS_cV1 x [_] dX11_extra_7 cwX11_isRider lkX11_112 rfl rfl rfl (cs_isRider x) ⟨Nat.le_of_ble_eq_true rfl, Nat.le_of_ble_eq_true rfl, Nat.le_of_ble_eq_true rfl, Nat.le_of_ble_eq_true rfl, Nat.le_of_ble_eq_true rfl⟩ (fun h x => ?_)
  refine mj_if_eq 33 dX11_extra_10 (by decide) (fun c_10 => ?_) (fun c_10 => ?_)
  · exact absurd ((bI_0.mp c_10).symm.trans hb) (by decide)
  · refine mj_aload_n 0 dX11_extra_13 rfl ?_
    refine mj_iload_n 2 dX11_extra_14 rfl ?_
    refine mS_cV1 x [_] dX11_extra_15 cwX11_isDriver lkX11_87 rfl rfl rfl (cs_isDriver x) ⟨Nat.le_of_ble_eq_true rfl, Nat.le_of_ble_eq_true rfl, Nat.le_of_ble_eq_true rfl, Nat.le_of_ble_eq_true rfl, Nat.le_of_ble_eq_true rfl⟩ (fun h x => ?_)
    refine mj_if_eq 33 dX11_extra_18 (by decide) (fun c_18 => ?_) (fun c_18 => ?_)
    · exact absurd ((bI_0.mp c_18).symm.trans hj) (by decide)
    · refine mj_aload_n 0 dX11_extra_21 rfl ?_
      refine mj_iload_n 1 dX11_extra_22 rfl ?_
      refine mj_iload_n 2 dX11_extra_23 rfl ?_
      refine mS_cV1 x [_, _] dX11_extra_24 cwX11_extraOf lkX11_182 rfl rfl rfl (cs_extraOf x hr hd hg) ⟨Nat.le_of_ble_eq_true rfl, Nat.le_of_ble_eq_true rfl, Nat.le_of_ble_eq_true rfl, Nat.le_of_ble_eq_true rfl, Nat.le_of_ble_eq_true rfl⟩ (fun h x => ?_)
      refine mj_cS1 [_] dX11_extra_27 cwX11_orNone lkX11_185 rfl (cn_X11_orNone) ⟨Nat.le_of_ble_eq_true rfl, Nat.le_of_ble_eq_true rfl, Nat.le_of_ble_eq_true rfl, Nat.le_of_ble_eq_true rfl, Nat.le_of_ble_eq_true rfl⟩ (fun h' e' => ?_)
      subst h'
      refine mj_goto 38 dX11_extra_30 (by decide) ?_
      exact mj_iret dX11_extra_38 rfl (Nat.le_of_ble_eq_true rfl) (Nat.le_of_ble_eq_true rfl) ⟨rfl, rfl, x⟩
set_option maxRecDepth 100000 in
set_option maxHeartbeats 4000000 in
theorem cs_soloExtra_nor {K : KX} {n : Nat} {h : MH} {h0 : MH} {m : Nat} {M : MS} (x : Ms h0 m M h) {i j : Int32} (hb : b_in i 0 (gbrd M 2 - 1) = false) : Con K mX11_soloExtra [.ref m, .int i, .int j] 0 0 n h (RetP (some (.int (0))) n (Ms h0 m (sthr M 1))) := by
  refine Con.of (by decide +kernel) (Nat.le_of_ble_eq_true rfl) ?_
  refine mj_aload_n 0 dX11_soloExtra_0 rfl ?_
  refine mj_iconst (v := 0) dX11_soloExtra_1 rfl ?_
  refine mS_pthr dX11_soloExtra_2 fgX11_61 x (fun h x => ?_)
  refine mj_aload_n 0 dX11_soloExtra_5 rfl ?_
  refine mj_iload_n 1 dX11_soloExtra_6 rfl ?_
  refine mS_cV1 x [_] dX11_soloExtra_7 cwX11_isRider lkX11_112 rfl rfl rfl (cs_isRider x) ⟨Nat.le_of_ble_eq_true rfl, Nat.le_of_ble_eq_true rfl, Nat.le_of_ble_eq_true rfl, Nat.le_of_ble_eq_true rfl, Nat.le_of_ble_eq_true rfl⟩ (fun h x => ?_)
  refine mj_if_eq 33 dX11_soloExtra_10 (by decide) (fun c_10 => ?_) (fun c_10 => ?_)
  · refine mj_aload_n 0 dX11_soloExtra_33 rfl ?_
    refine mj_iconst (v := 1) dX11_soloExtra_34 rfl ?_
    refine mS_cV1 x [_] dX11_soloExtra_35 cwX11_fail lkX11_79 rfl rfl rfl (cs_fail x (v := 1)) ⟨Nat.le_of_ble_eq_true rfl, Nat.le_of_ble_eq_true rfl, Nat.le_of_ble_eq_true rfl, Nat.le_of_ble_eq_true rfl, Nat.le_of_ble_eq_true rfl⟩ (fun h x => ?_)
    exact mj_iret dX11_soloExtra_38 rfl (Nat.le_of_ble_eq_true rfl) (Nat.le_of_ble_eq_true rfl) ⟨rfl, rfl, (by rw [sthr_ss] at x; exact x)⟩
  · exact absurd ((bI_n0.mp c_10).symm.trans hb) (by decide)
set_option maxRecDepth 100000 in
set_option maxHeartbeats 4000000 in
theorem cs_soloExtra_nod {K : KX} {n : Nat} {h : MH} {h0 : MH} {m : Nat} {M : MS} (x : Ms h0 m M h) {r : Nat} (hr : r < 20) (hb : b_in (nI r) 0 (gbrd M 2 - 1) = true) {j : Int32} (hj : b_in j 0 (gbrd M 1 - 1) = false) : Con K mX11_soloExtra [.ref m, .int (nI r), .int j] 0 0 n h (RetP (some (.int (0))) n (Ms h0 m (sthr M 1))) := by
  refine Con.of (by decide +kernel) (Nat.le_of_ble_eq_true rfl) ?_
  refine mj_aload_n 0 dX11_soloExtra_0 rfl ?_
  refine mj_iconst (v := 0) dX11_soloExtra_1 rfl ?_
  refine mS_pthr dX11_soloExtra_2 fgX11_61 x (fun h x => ?_)
  refine mj_aload_n 0 dX11_soloExtra_5 rfl ?_
  refine mj_iload_n 1 dX11_soloExtra_6 rfl ?_
  refine mS_cV1 x [_] dX11_soloExtra_7 cwX11_isRider lkX11_112 rfl rfl rfl (cs_isRider x) ⟨Nat.le_of_ble_eq_true rfl, Nat.le_of_ble_eq_true rfl, Nat.le_of_ble_eq_true rfl, Nat.le_of_ble_eq_true rfl, Nat.le_of_ble_eq_true rfl⟩ (fun h x => ?_)
  refine mj_if_eq 33 dX11_soloExtra_10 (by decide) (fun c_10 => ?_) (fun c_10 => ?_)
  · exact absurd ((bI_0.mp c_10).symm.trans hb) (by decide)
  · refine mj_aload_n 0 dX11_soloExtra_13 rfl ?_
    refine mj_iload_n 2 dX11_soloExtra_14 rfl ?_
    refine mS_cV1 x [_] dX11_soloExtra_15 cwX11_isDriver lkX11_87 rfl rfl rfl (cs_isDriver x) ⟨Nat.le_of_ble_eq_true rfl, Nat.le_of_ble_eq_true rfl, Nat.le_of_ble_eq_true rfl, Nat.le_of_ble_eq_true rfl, Nat.le_of_ble_eq_true rfl⟩ (fun h x => ?_)
    refine mj_if_eq 33 dX11_soloExtra_18 (by decide) (fun c_18 => ?_) (fun c_18 => ?_)
    · refine mj_aload_n 0 dX11_soloExtra_33 rfl ?_
      refine mj_iconst (v := 1) dX11_soloExtra_34 rfl ?_
      refine mS_cV1 x [_] dX11_soloExtra_35 cwX11_fail lkX11_79 rfl rfl rfl (cs_fail x (v := 1)) ⟨Nat.le_of_ble_eq_true rfl, Nat.le_of_ble_eq_true rfl, Nat.le_of_ble_eq_true rfl, Nat.le_of_ble_eq_true rfl, Nat.le_of_ble_eq_true rfl⟩ (fun h x => ?_)
      exact mj_iret dX11_soloExtra_38 rfl (Nat.le_of_ble_eq_true rfl) (Nat.le_of_ble_eq_true rfl) ⟨rfl, rfl, (by rw [sthr_ss] at x; exact x)⟩
    · exact absurd ((bI_n0.mp c_18).symm.trans hj) (by decide)
set_option maxRecDepth 100000 in
set_option maxHeartbeats 4000000 in
theorem cs_soloExtra {K : KX} {n : Nat} {h : MH} {h0 : MH} {m : Nat} {M : MS} (x : Ms h0 m M h) {r : Nat} (hr : r < 20) (hb : b_in (nI r) 0 (gbrd M 2 - 1) = true) {d : Nat} (hd : d < 8) (hj : b_in (nI d) 0 (gbrd M 1 - 1) = true) : Con K mX11_soloExtra [.ref m, .int (nI r), .int (nI d)] 0 0 n h (RetP (some (.int (o_none (w_solo (gbrd M) r d)))) n (Ms h0 m (sthr M 0))) := by
  refine Con.of (by decide +kernel) (Nat.le_of_ble_eq_true rfl) ?_
  refine mj_aload_n 0 dX11_soloExtra_0 rfl ?_
  refine mj_iconst (v := 0) dX11_soloExtra_1 rfl ?_
  refine mS_pthr dX11_soloExtra_2 fgX11_61 x (fun h x => ?_)
  refine mj_aload_n 0 dX11_soloExtra_5 rfl ?_
  refine mj_iload_n 1 dX11_soloExtra_6 rfl ?_
  refine mS_cV1 x [_] dX11_soloExtra_7 cwX11_isRider lkX11_112 rfl rfl rfl (cs_isRider x) ⟨Nat.le_of_ble_eq_true rfl, Nat.le_of_ble_eq_true rfl, Nat.le_of_ble_eq_true rfl, Nat.le_of_ble_eq_true rfl, Nat.le_of_ble_eq_true rfl⟩ (fun h x => ?_)
  refine mj_if_eq 33 dX11_soloExtra_10 (by decide) (fun c_10 => ?_) (fun c_10 => ?_)
  · exact absurd ((bI_0.mp c_10).symm.trans hb) (by decide)
  · refine mj_aload_n 0 dX11_soloExtra_13 rfl ?_
    refine mj_iload_n 2 dX11_soloExtra_14 rfl ?_
    refine mS_cV1 x [_] dX11_soloExtra_15 cwX11_isDriver lkX11_87 rfl rfl rfl (cs_isDriver x) ⟨Nat.le_of_ble_eq_true rfl, Nat.le_of_ble_eq_true rfl, Nat.le_of_ble_eq_true rfl, Nat.le_of_ble_eq_true rfl, Nat.le_of_ble_eq_true rfl⟩ (fun h x => ?_)
    refine mj_if_eq 33 dX11_soloExtra_18 (by decide) (fun c_18 => ?_) (fun c_18 => ?_)
    · exact absurd ((bI_0.mp c_18).symm.trans hj) (by decide)
    · refine mj_aload_n 0 dX11_soloExtra_21 rfl ?_
      refine mj_iload_n 1 dX11_soloExtra_22 rfl ?_
      refine mj_iload_n 2 dX11_soloExtra_23 rfl ?_
      refine mS_cV1 x [_, _] dX11_soloExtra_24 cwX11_soloOf lkX11_188 rfl rfl rfl (cs_soloOf x hr hd) ⟨Nat.le_of_ble_eq_true rfl, Nat.le_of_ble_eq_true rfl, Nat.le_of_ble_eq_true rfl, Nat.le_of_ble_eq_true rfl, Nat.le_of_ble_eq_true rfl⟩ (fun h x => ?_)
      refine mj_cS1 [_] dX11_soloExtra_27 cwX11_orNone lkX11_185 rfl (cn_X11_orNone) ⟨Nat.le_of_ble_eq_true rfl, Nat.le_of_ble_eq_true rfl, Nat.le_of_ble_eq_true rfl, Nat.le_of_ble_eq_true rfl, Nat.le_of_ble_eq_true rfl⟩ (fun h' e' => ?_)
      subst h'
      refine mj_goto 38 dX11_soloExtra_30 (by decide) ?_
      exact mj_iret dX11_soloExtra_38 rfl (Nat.le_of_ble_eq_true rfl) (Nat.le_of_ble_eq_true rfl) ⟨rfl, rfl, x⟩
def w_ext (g : Nat → Int32) (L : Nat → List Int32) (r d : Nat) : Int32 := if gd g d 8 = 0 then w_extra g r d (L d) else 1000000000
def w_bd (g : Nat → Int32) (L : Nat → List Int32) (r : Nat) : Nat → Int32 × Int32
  | 0 => (-1, 1000000000)
  | k + 1 => if w_ext g L r k < (w_bd g L r k).2 then (nI k, w_ext g L r k) else w_bd g L r k
set_option maxRecDepth 100000 in
set_option maxHeartbeats 4000000 in
theorem cs_bestDriver_no {K : KX} {n : Nat} {h : MH} {h0 : MH} {m : Nat} {M : MS} (x : Ms h0 m M h) {i : Int32} (hb : b_in i 0 (gbrd M 2 - 1) = false) : Con K mX11_bestDriver [.ref m, .int i] 0 0 n h (RetP (some (.int (0))) n (Ms h0 m (sthr M 1))) := by
  refine Con.of (by decide +kernel) (Nat.le_of_ble_eq_true rfl) ?_
  refine mj_aload_n 0 dX11_bestDriver_0 rfl ?_
  refine mj_iconst (v := 0) dX11_bestDriver_1 rfl ?_
  refine mS_pthr dX11_bestDriver_2 fgX11_61 x (fun h x => ?_)
  refine mj_aload_n 0 dX11_bestDriver_5 rfl ?_
  refine mj_iload_n 1 dX11_bestDriver_6 rfl ?_
  refine mS_cV1 x [_] dX11_bestDriver_7 cwX11_isRider lkX11_112 rfl rfl rfl (cs_isRider x) ⟨Nat.le_of_ble_eq_true rfl, Nat.le_of_ble_eq_true rfl, Nat.le_of_ble_eq_true rfl, Nat.le_of_ble_eq_true rfl, Nat.le_of_ble_eq_true rfl⟩ (fun h x => ?_)
  refine mj_if_ne 19 dX11_bestDriver_10 (by decide) (fun c_10 => ?_) (fun c_10 => ?_)
  · exact absurd ((bI_n0.mp c_10).symm.trans hb) (by decide)
  · refine mj_aload_n 0 dX11_bestDriver_13 rfl ?_
    refine mj_iconst (v := 1) dX11_bestDriver_14 rfl ?_
    refine mS_cV1 x [_] dX11_bestDriver_15 cwX11_fail lkX11_79 rfl rfl rfl (cs_fail x (v := 1)) ⟨Nat.le_of_ble_eq_true rfl, Nat.le_of_ble_eq_true rfl, Nat.le_of_ble_eq_true rfl, Nat.le_of_ble_eq_true rfl, Nat.le_of_ble_eq_true rfl⟩ (fun h x => ?_)
    exact mj_iret dX11_bestDriver_18 rfl (Nat.le_of_ble_eq_true rfl) (Nat.le_of_ble_eq_true rfl) ⟨rfl, rfl, (by rw [sthr_ss] at x; exact x)⟩
set_option maxRecDepth 100000 in
set_option maxHeartbeats 4000000 in
theorem cs_bestDriver {K : KX} {n : Nat} {h : MH} {h0 : MH} {m : Nat} {M : MS} (x : Ms h0 m M h) {r : Nat} (hr : r < 20) (hb : b_in (nI r) 0 (gbrd M 2 - 1) = true) {nd : Nat} (hnd : gbrd M 1 = nI nd) (h8 : nd ≤ 8) {L : Nat → List Int32} (hL : ∀ d, d < nd → Rok (gbrd M) d (L d)) : Con K mX11_bestDriver [.ref m, .int (nI r)] 0 0 n h (RetP (some (.int (w_bd (gbrd M) L r nd).1)) n (Ms h0 m (sthr M 0))) := by
  refine Con.of (by decide +kernel) (Nat.le_of_ble_eq_true rfl) ?_
  have loop : ∀ (f : Nat) (k : Nat) (b e : Int32) (h1 : MH), k + f = nd → w_bd (gbrd M) L r k = (b, e) → Ms h0 m (sthr M 0) h1 → GG (K, mX11_bestDriver, 0, 0, RetP (some (.int (w_bd (gbrd M) L r nd).1)) n (Ms h0 m (sthr M 0))) 0 0 27 [(4, .int (nI k)), (3, .int e), (2, .int b), (0, .ref m), (1, .int (nI r))] [] n h1 := by
    intro f
    induction f with
    | zero =>
      intro k b e h1 hk hs x
      refine mj_iload 0 dX11_bestDriver_27 rfl ?_
      refine mj_aload_n 3 dX11_bestDriver_29 rfl ?_
      refine mS_gbrd dX11_bestDriver_30 fgX11_7 x ?_
      refine mj_iconst (v := 1) dX11_bestDriver_33 rfl ?_
      refine mS_lbrd x ((show (1 : Int32).toInt = ((1 : Nat) : Int) from rfl)) (by first | assumption | omega | decide) dX11_bestDriver_34 ?_
      refine mj_eq (hnd) ?_
      refine mj_icmp_ge 79 dX11_bestDriver_35 (by decide) (fun c_35 => ?_) (fun c_35 => ?_)
      · refine mj_iload_n 2 dX11_bestDriver_79 rfl ?_
        exact mj_iret dX11_bestDriver_80 rfl (Nat.le_of_ble_eq_true rfl) (Nat.le_of_ble_eq_true rfl) ⟨(by rw [show nd = k by omega, hs]), rfl, x⟩
      · exact absurd (nI_le (by omega) (by omega)) c_35
    | succ f ih =>
      intro k b e h1 hk hs x
      refine mj_iload 0 dX11_bestDriver_27 rfl ?_
      refine mj_aload_n 3 dX11_bestDriver_29 rfl ?_
      refine mS_gbrd dX11_bestDriver_30 fgX11_7 x ?_
      refine mj_iconst (v := 1) dX11_bestDriver_33 rfl ?_
      refine mS_lbrd x ((show (1 : Int32).toInt = ((1 : Nat) : Int) from rfl)) (by first | assumption | omega | decide) dX11_bestDriver_34 ?_
      refine mj_eq (hnd) ?_
      refine mj_icmp_ge 79 dX11_bestDriver_35 (by decide) (fun c_35 => ?_) (fun c_35 => ?_)
      · exact absurd c_35 (nI_ge (by omega) (by omega))
      · refine mj_aload_n 3 dX11_bestDriver_38 rfl ?_
        refine mj_iload 0 dX11_bestDriver_39 rfl ?_
        refine mS_cV1 x [_] dX11_bestDriver_41 cwX11_isOpen lkX11_95 rfl rfl rfl (cs_isOpen x (d := k) (by omega)) ⟨Nat.le_of_ble_eq_true rfl, Nat.le_of_ble_eq_true rfl, Nat.le_of_ble_eq_true rfl, Nat.le_of_ble_eq_true rfl, Nat.le_of_ble_eq_true rfl⟩ (fun h x => ?_)
        refine mj_if_eq 57 dX11_bestDriver_44 (by decide) (fun c_44 => ?_) (fun c_44 => ?_)
        · have fe : w_ext (gbrd M) L r k = 1000000000 := if_neg (of_decide_eq_false (bI_0.mp c_44))
          refine mj_ldc dX11_bestDriver_57 ctX11_166 ?_
          refine mj_istore (ls' := [(5, _), (4, _), (3, _), (2, _), (0, _), (1, _)]) dX11_bestDriver_59 (Nat.le_of_ble_eq_true rfl) rfl ?_
          refine mj_iload 0 dX11_bestDriver_61 rfl ?_
          refine mj_iload_n 2 dX11_bestDriver_63 rfl ?_
          refine mj_icmp_ge 73 dX11_bestDriver_64 (by decide) (fun c_64 => ?_) (fun c_64 => ?_)
          · refine mj_iinc (ls' := [(4, _), (5, _), (3, _), (2, _), (0, _), (1, _)]) 1 dX11_bestDriver_73 rfl (nI_s _) (Nat.le_of_ble_eq_true rfl) rfl ?_
            refine mj_goto 27 dX11_bestDriver_76 (by decide) ?_
            exact mj_ls [0, 2, 3, 4, 5] rfl (ih (k + 1) b e h (by omega) (by unfold w_bd; rw [hs]; dsimp only; rw [fe, if_neg (Int32.not_lt.mpr c_64)]) x)
          · refine mj_iload 0 dX11_bestDriver_67 rfl ?_
            refine mj_istore_n (ls' := [(3, _), (5, _), (4, _), (2, _), (0, _), (1, _)]) dX11_bestDriver_69 (Nat.le_of_ble_eq_true rfl) rfl ?_
            refine mj_iload 2 dX11_bestDriver_70 rfl ?_
            refine mj_istore_n (ls' := [(2, _), (3, _), (5, _), (4, _), (0, _), (1, _)]) dX11_bestDriver_72 (Nat.le_of_ble_eq_true rfl) rfl ?_
            refine mj_iinc (ls' := [(4, _), (2, _), (3, _), (5, _), (0, _), (1, _)]) 3 dX11_bestDriver_73 rfl (nI_s _) (Nat.le_of_ble_eq_true rfl) rfl ?_
            refine mj_goto 27 dX11_bestDriver_76 (by decide) ?_
            exact mj_ls [0, 2, 1, 4, 5] rfl (ih (k + 1) _ _ h (by omega) (by unfold w_bd; rw [hs]; dsimp only; rw [fe, if_pos (Int32.not_le.mp c_64)]) x)
        · have fe : w_ext (gbrd M) L r k = w_extra (gbrd M) r k (L k) := if_pos (of_decide_eq_true (bI_n0.mp c_44))
          refine mj_aload_n 3 dX11_bestDriver_47 rfl ?_
          refine mj_iload_n 4 dX11_bestDriver_48 rfl ?_
          refine mj_iload 0 dX11_bestDriver_49 rfl ?_
          refine mS_cV1 x [_, _] dX11_bestDriver_51 cwX11_extraOf lkX11_182 rfl rfl rfl (cs_extraOf x hr (show k < 8 by omega) (hL k (by omega))) ⟨Nat.le_of_ble_eq_true rfl, Nat.le_of_ble_eq_true rfl, Nat.le_of_ble_eq_true rfl, Nat.le_of_ble_eq_true rfl, Nat.le_of_ble_eq_true rfl⟩ (fun h x => ?_)
          refine mj_eq (fe.symm) ?_
          have fe : w_ext (gbrd M) L r k = w_ext (gbrd M) L r k := rfl
          refine mj_goto 59 dX11_bestDriver_54 (by decide) ?_
          refine mj_istore (ls' := [(5, _), (4, _), (3, _), (2, _), (0, _), (1, _)]) dX11_bestDriver_59 (Nat.le_of_ble_eq_true rfl) rfl ?_
          refine mj_iload 0 dX11_bestDriver_61 rfl ?_
          refine mj_iload_n 2 dX11_bestDriver_63 rfl ?_
          refine mj_icmp_ge 73 dX11_bestDriver_64 (by decide) (fun c_64 => ?_) (fun c_64 => ?_)
          · refine mj_iinc (ls' := [(4, _), (5, _), (3, _), (2, _), (0, _), (1, _)]) 1 dX11_bestDriver_73 rfl (nI_s _) (Nat.le_of_ble_eq_true rfl) rfl ?_
            refine mj_goto 27 dX11_bestDriver_76 (by decide) ?_
            exact mj_ls [0, 2, 3, 4, 5] rfl (ih (k + 1) b e h (by omega) (by unfold w_bd; rw [hs]; dsimp only; rw [fe, if_neg (Int32.not_lt.mpr c_64)]) x)
          · refine mj_iload 0 dX11_bestDriver_67 rfl ?_
            refine mj_istore_n (ls' := [(3, _), (5, _), (4, _), (2, _), (0, _), (1, _)]) dX11_bestDriver_69 (Nat.le_of_ble_eq_true rfl) rfl ?_
            refine mj_iload 2 dX11_bestDriver_70 rfl ?_
            refine mj_istore_n (ls' := [(2, _), (3, _), (5, _), (4, _), (0, _), (1, _)]) dX11_bestDriver_72 (Nat.le_of_ble_eq_true rfl) rfl ?_
            refine mj_iinc (ls' := [(4, _), (2, _), (3, _), (5, _), (0, _), (1, _)]) 3 dX11_bestDriver_73 rfl (nI_s _) (Nat.le_of_ble_eq_true rfl) rfl ?_
            refine mj_goto 27 dX11_bestDriver_76 (by decide) ?_
            exact mj_ls [0, 2, 1, 4, 5] rfl (ih (k + 1) _ _ h (by omega) (by unfold w_bd; rw [hs]; dsimp only; rw [fe, if_pos (Int32.not_le.mp c_64)]) x)
  refine mj_aload_n 0 dX11_bestDriver_0 rfl ?_
  refine mj_iconst (v := 0) dX11_bestDriver_1 rfl ?_
  refine mS_pthr dX11_bestDriver_2 fgX11_61 x (fun h x => ?_)
  refine mj_aload_n 0 dX11_bestDriver_5 rfl ?_
  refine mj_iload_n 1 dX11_bestDriver_6 rfl ?_
  refine mS_cV1 x [_] dX11_bestDriver_7 cwX11_isRider lkX11_112 rfl rfl rfl (cs_isRider x) ⟨Nat.le_of_ble_eq_true rfl, Nat.le_of_ble_eq_true rfl, Nat.le_of_ble_eq_true rfl, Nat.le_of_ble_eq_true rfl, Nat.le_of_ble_eq_true rfl⟩ (fun h x => ?_)
  refine mj_if_ne 19 dX11_bestDriver_10 (by decide) (fun c_10 => ?_) (fun c_10 => ?_)
  · refine mj_iconst (v := (-1)) dX11_bestDriver_19 rfl ?_
    refine mj_istore_n (ls' := [(2, _), (0, _), (1, _)]) dX11_bestDriver_20 (Nat.le_of_ble_eq_true rfl) rfl ?_
    refine mj_ldc dX11_bestDriver_21 ctX11_166 ?_
    refine mj_istore_n (ls' := [(3, _), (2, _), (0, _), (1, _)]) dX11_bestDriver_23 (Nat.le_of_ble_eq_true rfl) rfl ?_
    refine mj_iconst (v := 0) dX11_bestDriver_24 rfl ?_
    refine mj_istore (ls' := [(4, _), (3, _), (2, _), (0, _), (1, _)]) dX11_bestDriver_25 (Nat.le_of_ble_eq_true rfl) rfl ?_
    exact mj_ls [0, 1, 2, 3, 4] rfl (loop nd 0 (-1) 1000000000 h (by omega) rfl x)
  · exact absurd ((bI_0.mp c_10).symm.trans hb) (by decide)
set_option maxRecDepth 100000 in
set_option maxHeartbeats 4000000 in
theorem cs_assign_nor {K : KX} {n : Nat} {h : MH} {h0 : MH} {m : Nat} {M : MS} (x : Ms h0 m M h) {i j : Int32} (hb : b_in i 0 (gbrd M 2 - 1) = false) : Con K mX11_assign [.ref m, .int i, .int j] 0 0 n h (RetP (some (.int (0))) n (Ms h0 m (sthr M 1))) := by
  refine Con.of (by decide +kernel) (Nat.le_of_ble_eq_true rfl) ?_
  refine mj_aload_n 0 dX11_assign_0 rfl ?_
  refine mj_iconst (v := 0) dX11_assign_1 rfl ?_
  refine mS_pthr dX11_assign_2 fgX11_61 x (fun h x => ?_)
  refine mj_aload_n 0 dX11_assign_5 rfl ?_
  refine mj_iload_n 1 dX11_assign_6 rfl ?_
  refine mS_cV1 x [_] dX11_assign_7 cwX11_isRider lkX11_112 rfl rfl rfl (cs_isRider x) ⟨Nat.le_of_ble_eq_true rfl, Nat.le_of_ble_eq_true rfl, Nat.le_of_ble_eq_true rfl, Nat.le_of_ble_eq_true rfl, Nat.le_of_ble_eq_true rfl⟩ (fun h x => ?_)
  refine mj_if_eq 21 dX11_assign_10 (by decide) (fun c_10 => ?_) (fun c_10 => ?_)
  · refine mj_aload_n 0 dX11_assign_21 rfl ?_
    refine mj_iconst (v := 1) dX11_assign_22 rfl ?_
    refine mS_cV1 x [_] dX11_assign_23 cwX11_fail lkX11_79 rfl rfl rfl (cs_fail x (v := 1)) ⟨Nat.le_of_ble_eq_true rfl, Nat.le_of_ble_eq_true rfl, Nat.le_of_ble_eq_true rfl, Nat.le_of_ble_eq_true rfl, Nat.le_of_ble_eq_true rfl⟩ (fun h x => ?_)
    exact mj_iret dX11_assign_26 rfl (Nat.le_of_ble_eq_true rfl) (Nat.le_of_ble_eq_true rfl) ⟨rfl, rfl, (by rw [sthr_ss] at x; exact x)⟩
  · exact absurd ((bI_n0.mp c_10).symm.trans hb) (by decide)
set_option maxRecDepth 100000 in
set_option maxHeartbeats 4000000 in
theorem cs_assign_nod {K : KX} {n : Nat} {h : MH} {h0 : MH} {m : Nat} {M : MS} (x : Ms h0 m M h) {r : Nat} (hr : r < 20) (hb : b_in (nI r) 0 (gbrd M 2 - 1) = true) {j : Int32} (hj : b_in j 0 (gbrd M 1 - 1) = false) : Con K mX11_assign [.ref m, .int (nI r), .int j] 0 0 n h (RetP (some (.int (0))) n (Ms h0 m (sthr M 1))) := by
  refine Con.of (by decide +kernel) (Nat.le_of_ble_eq_true rfl) ?_
  refine mj_aload_n 0 dX11_assign_0 rfl ?_
  refine mj_iconst (v := 0) dX11_assign_1 rfl ?_
  refine mS_pthr dX11_assign_2 fgX11_61 x (fun h x => ?_)
  refine mj_aload_n 0 dX11_assign_5 rfl ?_
  refine mj_iload_n 1 dX11_assign_6 rfl ?_
  refine mS_cV1 x [_] dX11_assign_7 cwX11_isRider lkX11_112 rfl rfl rfl (cs_isRider x) ⟨Nat.le_of_ble_eq_true rfl, Nat.le_of_ble_eq_true rfl, Nat.le_of_ble_eq_true rfl, Nat.le_of_ble_eq_true rfl, Nat.le_of_ble_eq_true rfl⟩ (fun h x => ?_)
  refine mj_if_eq 21 dX11_assign_10 (by decide) (fun c_10 => ?_) (fun c_10 => ?_)
  · exact absurd ((bI_0.mp c_10).symm.trans hb) (by decide)
  · refine mj_aload_n 0 dX11_assign_13 rfl ?_
    refine mj_iload_n 2 dX11_assign_14 rfl ?_
    refine mS_cV1 x [_] dX11_assign_15 cwX11_isDriver lkX11_87 rfl rfl rfl (cs_isDriver x) ⟨Nat.le_of_ble_eq_true rfl, Nat.le_of_ble_eq_true rfl, Nat.le_of_ble_eq_true rfl, Nat.le_of_ble_eq_true rfl, Nat.le_of_ble_eq_true rfl⟩ (fun h x => ?_)
    refine mj_if_ne 27 dX11_assign_18 (by decide) (fun c_18 => ?_) (fun c_18 => ?_)
    · exact absurd ((bI_n0.mp c_18).symm.trans hj) (by decide)
    · refine mj_aload_n 0 dX11_assign_21 rfl ?_
      refine mj_iconst (v := 1) dX11_assign_22 rfl ?_
      refine mS_cV1 x [_] dX11_assign_23 cwX11_fail lkX11_79 rfl rfl rfl (cs_fail x (v := 1)) ⟨Nat.le_of_ble_eq_true rfl, Nat.le_of_ble_eq_true rfl, Nat.le_of_ble_eq_true rfl, Nat.le_of_ble_eq_true rfl, Nat.le_of_ble_eq_true rfl⟩ (fun h x => ?_)
      exact mj_iret dX11_assign_26 rfl (Nat.le_of_ble_eq_true rfl) (Nat.le_of_ble_eq_true rfl) ⟨rfl, rfl, (by rw [sthr_ss] at x; exact x)⟩
set_option maxRecDepth 100000 in
set_option maxHeartbeats 4000000 in
theorem cs_assign_state {K : KX} {n : Nat} {h : MH} {h0 : MH} {m : Nat} {M : MS} (x : Ms h0 m M h) {r : Nat} (hr : r < 20) (hb : b_in (nI r) 0 (gbrd M 2 - 1) = true) {d : Nat} (hd : d < 8) (hj : b_in (nI d) 0 (gbrd M 1 - 1) = true) (hs : ¬ gr (gbrd M) r 6 = 0 ∨ ¬ gd (gbrd M) d 8 = 0) : Con K mX11_assign [.ref m, .int (nI r), .int (nI d)] 0 0 n h (RetP (some (.int (0))) n (Ms h0 m (sthr M 2))) := by
  refine Con.of (by decide +kernel) (Nat.le_of_ble_eq_true rfl) ?_
  refine mj_aload_n 0 dX11_assign_0 rfl ?_
  refine mj_iconst (v := 0) dX11_assign_1 rfl ?_
  refine mS_pthr dX11_assign_2 fgX11_61 x (fun h x => ?_)
  refine mj_aload_n 0 dX11_assign_5 rfl ?_
  refine mj_iload_n 1 dX11_assign_6 rfl ?_
  refine mS_cV1 x [_] dX11_assign_7 cwX11_isRider lkX11_112 rfl rfl rfl (cs_isRider x) ⟨Nat.le_of_ble_eq_true rfl, Nat.le_of_ble_eq_true rfl, Nat.le_of_ble_eq_true rfl, Nat.le_of_ble_eq_true rfl, Nat.le_of_ble_eq_true rfl⟩ (fun h x => ?_)
  refine mj_if_eq 21 dX11_assign_10 (by decide) (fun c_10 => ?_) (fun c_10 => ?_)
  · exact absurd ((bI_0.mp c_10).symm.trans hb) (by decide)
  · refine mj_aload_n 0 dX11_assign_13 rfl ?_
    refine mj_iload_n 2 dX11_assign_14 rfl ?_
    refine mS_cV1 x [_] dX11_assign_15 cwX11_isDriver lkX11_87 rfl rfl rfl (cs_isDriver x) ⟨Nat.le_of_ble_eq_true rfl, Nat.le_of_ble_eq_true rfl, Nat.le_of_ble_eq_true rfl, Nat.le_of_ble_eq_true rfl, Nat.le_of_ble_eq_true rfl⟩ (fun h x => ?_)
    refine mj_if_ne 27 dX11_assign_18 (by decide) (fun c_18 => ?_) (fun c_18 => ?_)
    · refine mj_aload_n 0 dX11_assign_27 rfl ?_
      refine mj_iload_n 1 dX11_assign_28 rfl ?_
      refine mj_bipush (v := (6)) dX11_assign_29 rfl ?_
      refine mS_cV1 x [_, _] dX11_assign_31 cwX11_rider lkX11_72 rfl rfl rfl (cs_rider x (r := r) (f := 6) hr (by decide)) ⟨Nat.le_of_ble_eq_true rfl, Nat.le_of_ble_eq_true rfl, Nat.le_of_ble_eq_true rfl, Nat.le_of_ble_eq_true rfl, Nat.le_of_ble_eq_true rfl⟩ (fun h x => ?_)
      refine mj_if_ne 54 dX11_assign_34 (by decide) (fun c_34 => ?_) (fun c_34 => ?_)
      · refine mj_ldc dX11_assign_54 ctX11_166 ?_
        refine mj_istore_n (ls' := [(3, _), (0, _), (1, _), (2, _)]) dX11_assign_56 (Nat.le_of_ble_eq_true rfl) rfl ?_
        refine mj_iload_n 0 dX11_assign_57 rfl ?_
        refine mj_ldc dX11_assign_58 ctX11_166 ?_
        refine mj_icmp_ne 71 dX11_assign_60 (by decide) (fun c_60 => ?_) (fun c_60 => ?_)
        · exact absurd rfl c_60
        · refine mj_aload_n 1 dX11_assign_63 rfl ?_
          refine mj_iconst (v := 2) dX11_assign_64 rfl ?_
          refine mS_cV1 x [_] dX11_assign_65 cwX11_fail lkX11_79 rfl rfl rfl (cs_fail x (v := 2)) ⟨Nat.le_of_ble_eq_true rfl, Nat.le_of_ble_eq_true rfl, Nat.le_of_ble_eq_true rfl, Nat.le_of_ble_eq_true rfl, Nat.le_of_ble_eq_true rfl⟩ (fun h x => ?_)
          refine mj_goto 72 dX11_assign_68 (by decide) ?_
          exact mj_iret dX11_assign_72 rfl (Nat.le_of_ble_eq_true rfl) (Nat.le_of_ble_eq_true rfl) ⟨rfl, rfl, (by rw [sthr_ss] at x; exact x)⟩
      · refine mj_aload_n 0 dX11_assign_37 rfl ?_
        refine mj_iload_n 2 dX11_assign_38 rfl ?_
        refine mS_cV1 x [_] dX11_assign_39 cwX11_isOpen lkX11_95 rfl rfl rfl (cs_isOpen x hd) ⟨Nat.le_of_ble_eq_true rfl, Nat.le_of_ble_eq_true rfl, Nat.le_of_ble_eq_true rfl, Nat.le_of_ble_eq_true rfl, Nat.le_of_ble_eq_true rfl⟩ (fun h x => ?_)
        refine mj_if_eq 54 dX11_assign_42 (by decide) (fun c_42 => ?_) (fun c_42 => ?_)
        · refine mj_ldc dX11_assign_54 ctX11_166 ?_
          refine mj_istore_n (ls' := [(3, _), (0, _), (1, _), (2, _)]) dX11_assign_56 (Nat.le_of_ble_eq_true rfl) rfl ?_
          refine mj_iload_n 0 dX11_assign_57 rfl ?_
          refine mj_ldc dX11_assign_58 ctX11_166 ?_
          refine mj_icmp_ne 71 dX11_assign_60 (by decide) (fun c_60 => ?_) (fun c_60 => ?_)
          · exact absurd rfl c_60
          · refine mj_aload_n 1 dX11_assign_63 rfl ?_
            refine mj_iconst (v := 2) dX11_assign_64 rfl ?_
            refine mS_cV1 x [_] dX11_assign_65 cwX11_fail lkX11_79 rfl rfl rfl (cs_fail x (v := 2)) ⟨Nat.le_of_ble_eq_true rfl, Nat.le_of_ble_eq_true rfl, Nat.le_of_ble_eq_true rfl, Nat.le_of_ble_eq_true rfl, Nat.le_of_ble_eq_true rfl⟩ (fun h x => ?_)
            refine mj_goto 72 dX11_assign_68 (by decide) ?_
            exact mj_iret dX11_assign_72 rfl (Nat.le_of_ble_eq_true rfl) (Nat.le_of_ble_eq_true rfl) ⟨rfl, rfl, (by rw [sthr_ss] at x; exact x)⟩
        · rcases hs with hs | hs
          · exact absurd c_34 hs
          · exact absurd (of_decide_eq_true (bI_n0.mp c_42)) hs
    · exact absurd ((bI_0.mp c_18).symm.trans hj) (by decide)
set_option maxRecDepth 100000 in
set_option maxHeartbeats 4000000 in
theorem cs_assign_nox {K : KX} {n : Nat} {h : MH} {h0 : MH} {m : Nat} {M : MS} (x : Ms h0 m M h) {r : Nat} (hr : r < 20) (hb : b_in (nI r) 0 (gbrd M 2 - 1) = true) {d : Nat} (hd : d < 8) (hj : b_in (nI d) 0 (gbrd M 1 - 1) = true) {l : List Int32} (hg : Rok (gbrd M) d l) (hl : l.length ≤ 38) (hs : gr (gbrd M) r 6 = 0) (hs2 : gd (gbrd M) d 8 = 0) (hv : w_extra (gbrd M) r d l = 1000000000) : Con K mX11_assign [.ref m, .int (nI r), .int (nI d)] 0 0 n h (RetP (some (.int (0))) n (Ms h0 m (sthr M 2))) := by
  refine Con.of (by decide +kernel) (Nat.le_of_ble_eq_true rfl) ?_
  refine mj_aload_n 0 dX11_assign_0 rfl ?_
  refine mj_iconst (v := 0) dX11_assign_1 rfl ?_
  refine mS_pthr dX11_assign_2 fgX11_61 x (fun h x => ?_)
  refine mj_aload_n 0 dX11_assign_5 rfl ?_
  refine mj_iload_n 1 dX11_assign_6 rfl ?_
  refine mS_cV1 x [_] dX11_assign_7 cwX11_isRider lkX11_112 rfl rfl rfl (cs_isRider x) ⟨Nat.le_of_ble_eq_true rfl, Nat.le_of_ble_eq_true rfl, Nat.le_of_ble_eq_true rfl, Nat.le_of_ble_eq_true rfl, Nat.le_of_ble_eq_true rfl⟩ (fun h x => ?_)
  refine mj_if_eq 21 dX11_assign_10 (by decide) (fun c_10 => ?_) (fun c_10 => ?_)
  · exact absurd ((bI_0.mp c_10).symm.trans hb) (by decide)
  · refine mj_aload_n 0 dX11_assign_13 rfl ?_
    refine mj_iload_n 2 dX11_assign_14 rfl ?_
    refine mS_cV1 x [_] dX11_assign_15 cwX11_isDriver lkX11_87 rfl rfl rfl (cs_isDriver x) ⟨Nat.le_of_ble_eq_true rfl, Nat.le_of_ble_eq_true rfl, Nat.le_of_ble_eq_true rfl, Nat.le_of_ble_eq_true rfl, Nat.le_of_ble_eq_true rfl⟩ (fun h x => ?_)
    refine mj_if_ne 27 dX11_assign_18 (by decide) (fun c_18 => ?_) (fun c_18 => ?_)
    · refine mj_aload_n 0 dX11_assign_27 rfl ?_
      refine mj_iload_n 1 dX11_assign_28 rfl ?_
      refine mj_bipush (v := (6)) dX11_assign_29 rfl ?_
      refine mS_cV1 x [_, _] dX11_assign_31 cwX11_rider lkX11_72 rfl rfl rfl (cs_rider x (r := r) (f := 6) hr (by decide)) ⟨Nat.le_of_ble_eq_true rfl, Nat.le_of_ble_eq_true rfl, Nat.le_of_ble_eq_true rfl, Nat.le_of_ble_eq_true rfl, Nat.le_of_ble_eq_true rfl⟩ (fun h x => ?_)
      refine mj_if_ne 54 dX11_assign_34 (by decide) (fun c_34 => ?_) (fun c_34 => ?_)
      · exact absurd hs c_34
      · refine mj_aload_n 0 dX11_assign_37 rfl ?_
        refine mj_iload_n 2 dX11_assign_38 rfl ?_
        refine mS_cV1 x [_] dX11_assign_39 cwX11_isOpen lkX11_95 rfl rfl rfl (cs_isOpen x hd) ⟨Nat.le_of_ble_eq_true rfl, Nat.le_of_ble_eq_true rfl, Nat.le_of_ble_eq_true rfl, Nat.le_of_ble_eq_true rfl, Nat.le_of_ble_eq_true rfl⟩ (fun h x => ?_)
        refine mj_if_eq 54 dX11_assign_42 (by decide) (fun c_42 => ?_) (fun c_42 => ?_)
        · exact absurd hs2 (of_decide_eq_false (bI_0.mp c_42))
        · refine mj_aload_n 0 dX11_assign_45 rfl ?_
          refine mj_iload_n 1 dX11_assign_46 rfl ?_
          refine mj_iload_n 2 dX11_assign_47 rfl ?_
          refine mS_cV1 x [_, _] dX11_assign_48 cwX11_join lkX11_194 rfl rfl rfl (cs_join x hr hd hg hl) ⟨Nat.le_of_ble_eq_true rfl, Nat.le_of_ble_eq_true rfl, Nat.le_of_ble_eq_true rfl, Nat.le_of_ble_eq_true rfl, Nat.le_of_ble_eq_true rfl⟩ (fun h x => ?_)
          refine mj_goto 56 dX11_assign_51 (by decide) ?_
          refine mj_istore_n (ls' := [(3, _), (0, _), (1, _), (2, _)]) dX11_assign_56 (Nat.le_of_ble_eq_true rfl) rfl ?_
          refine mj_iload_n 0 dX11_assign_57 rfl ?_
          refine mj_ldc dX11_assign_58 ctX11_166 ?_
          refine mj_icmp_ne 71 dX11_assign_60 (by decide) (fun c_60 => ?_) (fun c_60 => ?_)
          · exact absurd hv c_60
          · refine mj_aload_n 1 dX11_assign_63 rfl ?_
            refine mj_iconst (v := 2) dX11_assign_64 rfl ?_
            refine mS_cV1 x [_] dX11_assign_65 cwX11_fail lkX11_79 rfl rfl rfl (cs_fail x (v := 2)) ⟨Nat.le_of_ble_eq_true rfl, Nat.le_of_ble_eq_true rfl, Nat.le_of_ble_eq_true rfl, Nat.le_of_ble_eq_true rfl, Nat.le_of_ble_eq_true rfl⟩ (fun h x => ?_)
            refine mj_goto 72 dX11_assign_68 (by decide) ?_
            exact mj_iret dX11_assign_72 rfl (Nat.le_of_ble_eq_true rfl) (Nat.le_of_ble_eq_true rfl) ⟨rfl, rfl, (by
        have q := x
        unfold w_joinG at q
        rw [show w_extra (gbrd (sthr M 0)) r d l = 1000000000 from hv, if_pos rfl, sbrd_id, sthr_ss] at q
        exact q)⟩
    · exact absurd ((bI_0.mp c_18).symm.trans hj) (by decide)
set_option maxRecDepth 100000 in
set_option maxHeartbeats 4000000 in
theorem cs_assign {K : KX} {n : Nat} {h : MH} {h0 : MH} {m : Nat} {M : MS} (x : Ms h0 m M h) {r : Nat} (hr : r < 20) (hb : b_in (nI r) 0 (gbrd M 2 - 1) = true) {d : Nat} (hd : d < 8) (hj : b_in (nI d) 0 (gbrd M 1 - 1) = true) {l : List Int32} (hg : Rok (gbrd M) d l) (hl : l.length ≤ 38) (hs : gr (gbrd M) r 6 = 0) (hs2 : gd (gbrd M) d 8 = 0) (hv : ¬ w_extra (gbrd M) r d l = 1000000000) : Con K mX11_assign [.ref m, .int (nI r), .int (nI d)] 0 0 n h (RetP (some (.int (w_extra (gbrd M) r d l))) n (Ms h0 m (sbrd (sthr M 0) (w_joinG (gbrd M) r d l)))) := by
  refine Con.of (by decide +kernel) (Nat.le_of_ble_eq_true rfl) ?_
  refine mj_aload_n 0 dX11_assign_0 rfl ?_
  refine mj_iconst (v := 0) dX11_assign_1 rfl ?_
  refine mS_pthr dX11_assign_2 fgX11_61 x (fun h x => ?_)
  refine mj_aload_n 0 dX11_assign_5 rfl ?_
  refine mj_iload_n 1 dX11_assign_6 rfl ?_
  refine mS_cV1 x [_] dX11_assign_7 cwX11_isRider lkX11_112 rfl rfl rfl (cs_isRider x) ⟨Nat.le_of_ble_eq_true rfl, Nat.le_of_ble_eq_true rfl, Nat.le_of_ble_eq_true rfl, Nat.le_of_ble_eq_true rfl, Nat.le_of_ble_eq_true rfl⟩ (fun h x => ?_)
  refine mj_if_eq 21 dX11_assign_10 (by decide) (fun c_10 => ?_) (fun c_10 => ?_)
  · exact absurd ((bI_0.mp c_10).symm.trans hb) (by decide)
  · refine mj_aload_n 0 dX11_assign_13 rfl ?_
    refine mj_iload_n 2 dX11_assign_14 rfl ?_
    refine mS_cV1 x [_] dX11_assign_15 cwX11_isDriver lkX11_87 rfl rfl rfl (cs_isDriver x) ⟨Nat.le_of_ble_eq_true rfl, Nat.le_of_ble_eq_true rfl, Nat.le_of_ble_eq_true rfl, Nat.le_of_ble_eq_true rfl, Nat.le_of_ble_eq_true rfl⟩ (fun h x => ?_)
    refine mj_if_ne 27 dX11_assign_18 (by decide) (fun c_18 => ?_) (fun c_18 => ?_)
    · refine mj_aload_n 0 dX11_assign_27 rfl ?_
      refine mj_iload_n 1 dX11_assign_28 rfl ?_
      refine mj_bipush (v := (6)) dX11_assign_29 rfl ?_
      refine mS_cV1 x [_, _] dX11_assign_31 cwX11_rider lkX11_72 rfl rfl rfl (cs_rider x (r := r) (f := 6) hr (by decide)) ⟨Nat.le_of_ble_eq_true rfl, Nat.le_of_ble_eq_true rfl, Nat.le_of_ble_eq_true rfl, Nat.le_of_ble_eq_true rfl, Nat.le_of_ble_eq_true rfl⟩ (fun h x => ?_)
      refine mj_if_ne 54 dX11_assign_34 (by decide) (fun c_34 => ?_) (fun c_34 => ?_)
      · exact absurd hs c_34
      · refine mj_aload_n 0 dX11_assign_37 rfl ?_
        refine mj_iload_n 2 dX11_assign_38 rfl ?_
        refine mS_cV1 x [_] dX11_assign_39 cwX11_isOpen lkX11_95 rfl rfl rfl (cs_isOpen x hd) ⟨Nat.le_of_ble_eq_true rfl, Nat.le_of_ble_eq_true rfl, Nat.le_of_ble_eq_true rfl, Nat.le_of_ble_eq_true rfl, Nat.le_of_ble_eq_true rfl⟩ (fun h x => ?_)
        refine mj_if_eq 54 dX11_assign_42 (by decide) (fun c_42 => ?_) (fun c_42 => ?_)
        · exact absurd hs2 (of_decide_eq_false (bI_0.mp c_42))
        · refine mj_aload_n 0 dX11_assign_45 rfl ?_
          refine mj_iload_n 1 dX11_assign_46 rfl ?_
          refine mj_iload_n 2 dX11_assign_47 rfl ?_
          refine mS_cV1 x [_, _] dX11_assign_48 cwX11_join lkX11_194 rfl rfl rfl (cs_join x hr hd hg hl) ⟨Nat.le_of_ble_eq_true rfl, Nat.le_of_ble_eq_true rfl, Nat.le_of_ble_eq_true rfl, Nat.le_of_ble_eq_true rfl, Nat.le_of_ble_eq_true rfl⟩ (fun h x => ?_)
          refine mj_goto 56 dX11_assign_51 (by decide) ?_
          refine mj_istore_n (ls' := [(3, _), (0, _), (1, _), (2, _)]) dX11_assign_56 (Nat.le_of_ble_eq_true rfl) rfl ?_
          refine mj_iload_n 0 dX11_assign_57 rfl ?_
          refine mj_ldc dX11_assign_58 ctX11_166 ?_
          refine mj_icmp_ne 71 dX11_assign_60 (by decide) (fun c_60 => ?_) (fun c_60 => ?_)
          · refine mj_iload_n 0 dX11_assign_71 rfl ?_
            exact mj_iret dX11_assign_72 rfl (Nat.le_of_ble_eq_true rfl) (Nat.le_of_ble_eq_true rfl) ⟨rfl, rfl, x⟩
          · exact absurd c_60 hv
    · exact absurd ((bI_0.mp c_18).symm.trans hj) (by decide)
set_option maxRecDepth 100000 in
set_option maxHeartbeats 4000000 in
theorem cs_unassign_no {K : KX} {n : Nat} {h : MH} {h0 : MH} {m : Nat} {M : MS} (x : Ms h0 m M h) {i : Int32} (hb : b_in i 0 (gbrd M 2 - 1) = false) : Con K mX11_unassign [.ref m, .int i] 0 0 n h (RetP (some (.int (0))) n (Ms h0 m (sthr M 1))) := by
  refine Con.of (by decide +kernel) (Nat.le_of_ble_eq_true rfl) ?_
  refine mj_aload_n 0 dX11_unassign_0 rfl ?_
  refine mj_iconst (v := 0) dX11_unassign_1 rfl ?_
  refine mS_pthr dX11_unassign_2 fgX11_61 x (fun h x => ?_)
  refine mj_aload_n 0 dX11_unassign_5 rfl ?_
  refine mj_iload_n 1 dX11_unassign_6 rfl ?_
  refine mS_cV1 x [_] dX11_unassign_7 cwX11_isRider lkX11_112 rfl rfl rfl (cs_isRider x) ⟨Nat.le_of_ble_eq_true rfl, Nat.le_of_ble_eq_true rfl, Nat.le_of_ble_eq_true rfl, Nat.le_of_ble_eq_true rfl, Nat.le_of_ble_eq_true rfl⟩ (fun h x => ?_)
  refine mj_if_ne 19 dX11_unassign_10 (by decide) (fun c_10 => ?_) (fun c_10 => ?_)
  · exact absurd ((bI_n0.mp c_10).symm.trans hb) (by decide)
  · refine mj_aload_n 0 dX11_unassign_13 rfl ?_
    refine mj_iconst (v := 1) dX11_unassign_14 rfl ?_
    refine mS_cV1 x [_] dX11_unassign_15 cwX11_fail lkX11_79 rfl rfl rfl (cs_fail x (v := 1)) ⟨Nat.le_of_ble_eq_true rfl, Nat.le_of_ble_eq_true rfl, Nat.le_of_ble_eq_true rfl, Nat.le_of_ble_eq_true rfl, Nat.le_of_ble_eq_true rfl⟩ (fun h x => ?_)
    exact mj_iret dX11_unassign_18 rfl (Nat.le_of_ble_eq_true rfl) (Nat.le_of_ble_eq_true rfl) ⟨rfl, rfl, (by rw [sthr_ss] at x; exact x)⟩
set_option maxRecDepth 100000 in
set_option maxHeartbeats 4000000 in
theorem cs_unassign_st {K : KX} {n : Nat} {h : MH} {h0 : MH} {m : Nat} {M : MS} (x : Ms h0 m M h) {r : Nat} (hr : r < 20) (hb : b_in (nI r) 0 (gbrd M 2 - 1) = true) (hs : ¬ gr (gbrd M) r 6 = 1) : Con K mX11_unassign [.ref m, .int (nI r)] 0 0 n h (RetP (some (.int (0))) n (Ms h0 m (sthr M 2))) := by
  refine Con.of (by decide +kernel) (Nat.le_of_ble_eq_true rfl) ?_
  refine mj_aload_n 0 dX11_unassign_0 rfl ?_
  refine mj_iconst (v := 0) dX11_unassign_1 rfl ?_
  refine mS_pthr dX11_unassign_2 fgX11_61 x (fun h x => ?_)
  refine mj_aload_n 0 dX11_unassign_5 rfl ?_
  refine mj_iload_n 1 dX11_unassign_6 rfl ?_
  refine mS_cV1 x [_] dX11_unassign_7 cwX11_isRider lkX11_112 rfl rfl rfl (cs_isRider x) ⟨Nat.le_of_ble_eq_true rfl, Nat.le_of_ble_eq_true rfl, Nat.le_of_ble_eq_true rfl, Nat.le_of_ble_eq_true rfl, Nat.le_of_ble_eq_true rfl⟩ (fun h x => ?_)
  refine mj_if_ne 19 dX11_unassign_10 (by decide) (fun c_10 => ?_) (fun c_10 => ?_)
  · refine mj_aload_n 0 dX11_unassign_19 rfl ?_
    refine mj_iload_n 1 dX11_unassign_20 rfl ?_
    refine mj_bipush (v := (6)) dX11_unassign_21 rfl ?_
    refine mS_cV1 x [_, _] dX11_unassign_23 cwX11_rider lkX11_72 rfl rfl rfl (cs_rider x (r := r) (f := 6) hr (by decide)) ⟨Nat.le_of_ble_eq_true rfl, Nat.le_of_ble_eq_true rfl, Nat.le_of_ble_eq_true rfl, Nat.le_of_ble_eq_true rfl, Nat.le_of_ble_eq_true rfl⟩ (fun h x => ?_)
    refine mj_iconst (v := 1) dX11_unassign_26 rfl ?_
    refine mj_icmp_ne 39 dX11_unassign_27 (by decide) (fun c_27 => ?_) (fun c_27 => ?_)
    · refine mj_aload_n 0 dX11_unassign_39 rfl ?_
      refine mj_iconst (v := 2) dX11_unassign_40 rfl ?_
      refine mS_cV1 x [_] dX11_unassign_41 cwX11_fail lkX11_79 rfl rfl rfl (cs_fail x (v := 2)) ⟨Nat.le_of_ble_eq_true rfl, Nat.le_of_ble_eq_true rfl, Nat.le_of_ble_eq_true rfl, Nat.le_of_ble_eq_true rfl, Nat.le_of_ble_eq_true rfl⟩ (fun h x => ?_)
      exact mj_iret dX11_unassign_44 rfl (Nat.le_of_ble_eq_true rfl) (Nat.le_of_ble_eq_true rfl) ⟨rfl, rfl, (by rw [sthr_ss] at x; exact x)⟩
    · exact absurd c_27 hs
  · exact absurd ((bI_0.mp c_10).symm.trans hb) (by decide)
set_option maxRecDepth 100000 in
set_option maxHeartbeats 4000000 in
theorem cs_unassign {K : KX} {n : Nat} {h : MH} {h0 : MH} {m : Nat} {M : MS} (x : Ms h0 m M h) {r : Nat} (hr : r < 20) (hb : b_in (nI r) 0 (gbrd M 2 - 1) = true) {d : Nat} (hd : d < 8) {l : List Int32} (hg : Rok (gbrd M) d l) (hs : gr (gbrd M) r 6 = 1) (hdr : gr (gbrd M) r 7 = nI d) : Con K mX11_unassign [.ref m, .int (nI r)] 0 0 n h (RetP (some (.int (w_marg (gbrd M) r d l))) n (Ms h0 m (sbrd (sthr M 0) (w_leaveG (gbrd M) r d l 0)))) := by
  refine Con.of (by decide +kernel) (Nat.le_of_ble_eq_true rfl) ?_
  refine mj_aload_n 0 dX11_unassign_0 rfl ?_
  refine mj_iconst (v := 0) dX11_unassign_1 rfl ?_
  refine mS_pthr dX11_unassign_2 fgX11_61 x (fun h x => ?_)
  refine mj_aload_n 0 dX11_unassign_5 rfl ?_
  refine mj_iload_n 1 dX11_unassign_6 rfl ?_
  refine mS_cV1 x [_] dX11_unassign_7 cwX11_isRider lkX11_112 rfl rfl rfl (cs_isRider x) ⟨Nat.le_of_ble_eq_true rfl, Nat.le_of_ble_eq_true rfl, Nat.le_of_ble_eq_true rfl, Nat.le_of_ble_eq_true rfl, Nat.le_of_ble_eq_true rfl⟩ (fun h x => ?_)
  refine mj_if_ne 19 dX11_unassign_10 (by decide) (fun c_10 => ?_) (fun c_10 => ?_)
  · refine mj_aload_n 0 dX11_unassign_19 rfl ?_
    refine mj_iload_n 1 dX11_unassign_20 rfl ?_
    refine mj_bipush (v := (6)) dX11_unassign_21 rfl ?_
    refine mS_cV1 x [_, _] dX11_unassign_23 cwX11_rider lkX11_72 rfl rfl rfl (cs_rider x (r := r) (f := 6) hr (by decide)) ⟨Nat.le_of_ble_eq_true rfl, Nat.le_of_ble_eq_true rfl, Nat.le_of_ble_eq_true rfl, Nat.le_of_ble_eq_true rfl, Nat.le_of_ble_eq_true rfl⟩ (fun h x => ?_)
    refine mj_iconst (v := 1) dX11_unassign_26 rfl ?_
    refine mj_icmp_ne 39 dX11_unassign_27 (by decide) (fun c_27 => ?_) (fun c_27 => ?_)
    · exact absurd hs c_27
    · refine mj_aload_n 0 dX11_unassign_30 rfl ?_
      refine mj_iload_n 1 dX11_unassign_31 rfl ?_
      refine mj_iconst (v := 0) dX11_unassign_32 rfl ?_
      refine mS_cV1 x [_, _] dX11_unassign_33 cwX11_leave lkX11_197 rfl rfl rfl (cs_leave x hr hd hg hdr) ⟨Nat.le_of_ble_eq_true rfl, Nat.le_of_ble_eq_true rfl, Nat.le_of_ble_eq_true rfl, Nat.le_of_ble_eq_true rfl, Nat.le_of_ble_eq_true rfl⟩ (fun h x => ?_)
      refine mj_goto 44 dX11_unassign_36 (by decide) ?_
      exact mj_iret dX11_unassign_44 rfl (Nat.le_of_ble_eq_true rfl) (Nat.le_of_ble_eq_true rfl) ⟨rfl, rfl, x⟩
  · exact absurd ((bI_0.mp c_10).symm.trans hb) (by decide)
