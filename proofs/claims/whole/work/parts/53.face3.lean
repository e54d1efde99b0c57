theorem t_put_n {b : Nat → Int32} {d : Nat} {f : Nat → Int32} {j : Nat} : ∀ k, (j < 88 + 40 * d ∨ 88 + 40 * d + k ≤ j) → t_put b d f k j = b j
  | 0, _ => rfl
  | k + 1, h => by
    unfold t_put upd
    rw [if_neg (by omega)]
    exact t_put_n k (by omega)
theorem w_put_n {g : Nat → Int32} {d : Nat} {l : List Int32} {j : Nat} (h : j < 88 + 40 * d ∨ 88 + 40 * d + l.length ≤ j) (h2 : ¬ j = 8 + 10 * d + 9) : w_put g d l j = g j := by
  unfold w_put
  rw [t_put_n _ h]
  unfold upd
  rw [if_neg h2]
theorem w_leaveG_lo {g : Nat → Int32} {r d : Nat} {l : List Int32} {st : Int32} {j : Nat} (h : j < 8) : w_leaveG g r d l st j = g j := by
  unfold w_leaveG
  show (if j = _ then _ else (if j = _ then _ else w_put g d (w_wo (nI r) l) j)) = g j
  rw [if_neg (by omega), if_neg (by omega)]
  exact w_put_n (by omega) (by omega)
def a_nosh (M : MS) (r d : Nat) (l : List Int32) : MS :=
  scrd (scrd (sbrd M (w_leaveG (gbrd M) r d l 2)) (vp_updL (gcrd M) (8 + r) (gcrd M (8 + r) - (gbrd M 0).toInt64)))
    (vp_updL (vp_updL (gcrd M) (8 + r) (gcrd M (8 + r) - (gbrd M 0).toInt64)) d (vp_updL (gcrd M) (8 + r) (gcrd M (8 + r) - (gbrd M 0).toInt64) d + (gbrd M 0).toInt64))
set_option maxRecDepth 100000 in
set_option maxHeartbeats 4000000 in
theorem cs_noShow_no {K : KX} {n : Nat} {h : MH} {h0 : MH} {m : Nat} {M : MS} (x : Ms h0 m M h) {i : Int32} (hb : b_in i 0 (gbrd M 2 - 1) = false) : Con K mX11_noShow [.ref m, .int i] 0 0 n h (RetP (some (.int (0))) n (Ms h0 m (sthr M 1))) := by
  refine Con.of (by decide +kernel) (Nat.le_of_ble_eq_true rfl) ?_
  refine mj_aload_n 0 dX11_noShow_0 rfl ?_
  refine mj_iconst (v := 0) dX11_noShow_1 rfl ?_
  refine mS_pthr dX11_noShow_2 fgX11_61 x (fun h x => ?_)
  refine mj_aload_n 0 dX11_noShow_5 rfl ?_
  refine mj_iload_n 1 dX11_noShow_6 rfl ?_
  refine mS_cV1 x [_] dX11_noShow_7 cwX11_isRider lkX11_112 rfl rfl rfl (cs_isRider x) ⟨Nat.le_of_ble_eq_true rfl, Nat.le_of_ble_eq_true rfl, Nat.le_of_ble_eq_true rfl, Nat.le_of_ble_eq_true rfl, Nat.le_of_ble_eq_true rfl⟩ (fun h x => ?_)
  refine mj_if_ne 19 dX11_noShow_10 (by decide) (fun c_10 => ?_) (fun c_10 => ?_)
  · exact absurd ((bI_n0.mp c_10).symm.trans hb) (by decide)
  · refine mj_aload_n 0 dX11_noShow_13 rfl ?_
    refine mj_iconst (v := 1) dX11_noShow_14 rfl ?_
    refine mS_cV1 x [_] dX11_noShow_15 cwX11_fail lkX11_79 rfl rfl rfl (cs_fail x (v := 1)) ⟨Nat.le_of_ble_eq_true rfl, Nat.le_of_ble_eq_true rfl, Nat.le_of_ble_eq_true rfl, Nat.le_of_ble_eq_true rfl, Nat.le_of_ble_eq_true rfl⟩ (fun h x => ?_)
    exact mj_iret dX11_noShow_18 rfl (Nat.le_of_ble_eq_true rfl) (Nat.le_of_ble_eq_true rfl) ⟨rfl, rfl, (by rw [sthr_ss] at x; exact x)⟩
set_option maxRecDepth 100000 in
set_option maxHeartbeats 4000000 in
theorem cs_noShow_st {K : KX} {n : Nat} {h : MH} {h0 : MH} {m : Nat} {M : MS} (x : Ms h0 m M h) {r : Nat} (hr : r < 20) (hb : b_in (nI r) 0 (gbrd M 2 - 1) = true) (hs : ¬ gr (gbrd M) r 6 = 1) : Con K mX11_noShow [.ref m, .int (nI r)] 0 0 n h (RetP (some (.int (0))) n (Ms h0 m (sthr M 2))) := by
  refine Con.of (by decide +kernel) (Nat.le_of_ble_eq_true rfl) ?_
  refine mj_aload_n 0 dX11_noShow_0 rfl ?_
  refine mj_iconst (v := 0) dX11_noShow_1 rfl ?_
  refine mS_pthr dX11_noShow_2 fgX11_61 x (fun h x => ?_)
  refine mj_aload_n 0 dX11_noShow_5 rfl ?_
  refine mj_iload_n 1 dX11_noShow_6 rfl ?_
  refine mS_cV1 x [_] dX11_noShow_7 cwX11_isRider lkX11_112 rfl rfl rfl (cs_isRider x) ⟨Nat.le_of_ble_eq_true rfl, Nat.le_of_ble_eq_true rfl, Nat.le_of_ble_eq_true rfl, Nat.le_of_ble_eq_true rfl, Nat.le_of_ble_eq_true rfl⟩ (fun h x => ?_)
  refine mj_if_ne 19 dX11_noShow_10 (by decide) (fun c_10 => ?_) (fun c_10 => ?_)
  · refine mj_aload_n 0 dX11_noShow_19 rfl ?_
    refine mj_iload_n 1 dX11_noShow_20 rfl ?_
    refine mj_bipush (v := (6)) dX11_noShow_21 rfl ?_
    refine mS_cV1 x [_, _] dX11_noShow_23 cwX11_rider lkX11_72 rfl rfl rfl (cs_rider x (r := r) (f := 6) hr (by decide)) ⟨Nat.le_of_ble_eq_true rfl, Nat.le_of_ble_eq_true rfl, Nat.le_of_ble_eq_true rfl, Nat.le_of_ble_eq_true rfl, Nat.le_of_ble_eq_true rfl⟩ (fun h x => ?_)
    refine mj_iconst (v := 1) dX11_noShow_26 rfl ?_
    refine mj_icmp_eq 36 dX11_noShow_27 (by decide) (fun c_27 => ?_) (fun c_27 => ?_)
    · exact absurd c_27 hs
    · refine mj_aload_n 0 dX11_noShow_30 rfl ?_
      refine mj_iconst (v := 2) dX11_noShow_31 rfl ?_
      refine mS_cV1 x [_] dX11_noShow_32 cwX11_fail lkX11_79 rfl rfl rfl (cs_fail x (v := 2)) ⟨Nat.le_of_ble_eq_true rfl, Nat.le_of_ble_eq_true rfl, Nat.le_of_ble_eq_true rfl, Nat.le_of_ble_eq_true rfl, Nat.le_of_ble_eq_true rfl⟩ (fun h x => ?_)
      exact mj_iret dX11_noShow_35 rfl (Nat.le_of_ble_eq_true rfl) (Nat.le_of_ble_eq_true rfl) ⟨rfl, rfl, (by rw [sthr_ss] at x; exact x)⟩
  · exact absurd ((bI_0.mp c_10).symm.trans hb) (by decide)
set_option maxRecDepth 100000 in
set_option maxHeartbeats 4000000 in
theorem cs_noShow {K : KX} {n : Nat} {h : MH} {h0 : MH} {m : Nat} {M : MS} (x : Ms h0 m M h) {r : Nat} (hr : r < 20) (hb : b_in (nI r) 0 (gbrd M 2 - 1) = true) {d : Nat} (hd : d < 8) {l : List Int32} (hg : Rok (gbrd M) d l) (hs : gr (gbrd M) r 6 = 1) (hdr : gr (gbrd M) r 7 = nI d) : Con K mX11_noShow [.ref m, .int (nI r)] 0 0 n h (RetP (some (.int (nI d))) n (Ms h0 m (a_nosh (sthr M 0) r d l))) := by
  refine Con.of (by decide +kernel) (Nat.le_of_ble_eq_true rfl) ?_
  refine mj_aload_n 0 dX11_noShow_0 rfl ?_
  refine mj_iconst (v := 0) dX11_noShow_1 rfl ?_
  refine mS_pthr dX11_noShow_2 fgX11_61 x (fun h x => ?_)
  refine mj_aload_n 0 dX11_noShow_5 rfl ?_
  refine mj_iload_n 1 dX11_noShow_6 rfl ?_
  refine mS_cV1 x [_] dX11_noShow_7 cwX11_isRider lkX11_112 rfl rfl rfl (cs_isRider x) ⟨Nat.le_of_ble_eq_true rfl, Nat.le_of_ble_eq_true rfl, Nat.le_of_ble_eq_true rfl, Nat.le_of_ble_eq_true rfl, Nat.le_of_ble_eq_true rfl⟩ (fun h x => ?_)
  refine mj_if_ne 19 dX11_noShow_10 (by decide) (fun c_10 => ?_) (fun c_10 => ?_)
  · refine mj_aload_n 0 dX11_noShow_19 rfl ?_
    refine mj_iload_n 1 dX11_noShow_20 rfl ?_
    refine mj_bipush (v := (6)) dX11_noShow_21 rfl ?_
    refine mS_cV1 x [_, _] dX11_noShow_23 cwX11_rider lkX11_72 rfl rfl rfl (cs_rider x (r := r) (f := 6) hr (by decide)) ⟨Nat.le_of_ble_eq_true rfl, Nat.le_of_ble_eq_true rfl, Nat.le_of_ble_eq_true rfl, Nat.le_of_ble_eq_true rfl, Nat.le_of_ble_eq_true rfl⟩ (fun h x => ?_)
    refine mj_iconst (v := 1) dX11_noShow_26 rfl ?_
    refine mj_icmp_eq 36 dX11_noShow_27 (by decide) (fun c_27 => ?_) (fun c_27 => ?_)
    · refine mj_aload_n 0 dX11_noShow_36 rfl ?_
      refine mj_iload_n 1 dX11_noShow_37 rfl ?_
      refine mj_bipush (v := (7)) dX11_noShow_38 rfl ?_
      refine mS_cV1 x [_, _] dX11_noShow_40 cwX11_rider lkX11_72 rfl rfl rfl (cs_rider x (r := r) (f := 7) hr (by decide)) ⟨Nat.le_of_ble_eq_true rfl, Nat.le_of_ble_eq_true rfl, Nat.le_of_ble_eq_true rfl, Nat.le_of_ble_eq_true rfl, Nat.le_of_ble_eq_true rfl⟩ (fun h x => ?_)
      refine mj_eq (hdr) ?_
      refine mj_istore_n (ls' := [(2, _), (0, _), (1, _)]) dX11_noShow_43 (Nat.le_of_ble_eq_true rfl) rfl ?_
      refine mj_aload_n 1 dX11_noShow_44 rfl ?_
      refine mj_iload_n 2 dX11_noShow_45 rfl ?_
      refine mj_iconst (v := 2) dX11_noShow_46 rfl ?_
      refine mS_cV1 x [_, _] dX11_noShow_47 cwX11_leave lkX11_197 rfl rfl rfl (cs_leave x (st := 2) hr hd hg hdr) ⟨Nat.le_of_ble_eq_true rfl, Nat.le_of_ble_eq_true rfl, Nat.le_of_ble_eq_true rfl, Nat.le_of_ble_eq_true rfl, Nat.le_of_ble_eq_true rfl⟩ (fun h x => ?_)
      refine mj_istore_n (ls' := [(3, _), (2, _), (0, _), (1, _)]) dX11_noShow_50 (Nat.le_of_ble_eq_true rfl) rfl ?_
      refine mj_aload_n 2 dX11_noShow_51 rfl ?_
      refine mS_gcrd dX11_noShow_52 fgX11_19 x ?_
      refine mj_bipush (v := (8)) dX11_noShow_55 rfl ?_
      refine mj_iload_n 3 dX11_noShow_57 rfl ?_
      refine mj_iadd dX11_noShow_58 ?_
      refine mj_dup2 dX11_noShow_59 rfl rfl ?_
      refine mS_lcrd x (ix_crd (by omega)) (by first | assumption | omega | decide) dX11_noShow_60 ?_
      refine mj_aload_n 2 dX11_noShow_61 rfl ?_
      refine mS_gbrd dX11_noShow_62 fgX11_7 x ?_
      refine mj_iconst (v := 0) dX11_noShow_65 rfl ?_
      refine mS_lbrd x ((show (0 : Int32).toInt = ((0 : Nat) : Int) from rfl)) (by first | assumption | omega | decide) dX11_noShow_66 ?_
      refine mj_eq ((show w_leaveG (gbrd M) r d l 2 0 = gbrd M 0 from w_leaveG_lo (by omega))) ?_
      refine mj_i2l dX11_noShow_67 rfl ?_
      refine mj_lsub dX11_noShow_68 ?_
      refine mS_acrd x (ix_crd (by omega)) (by first | assumption | omega | decide) dX11_noShow_69 (fun h x => ?_)
      refine mj_aload_n 2 dX11_noShow_70 rfl ?_
      refine mS_gcrd dX11_noShow_71 fgX11_19 x ?_
      refine mj_iload_n 1 dX11_noShow_74 rfl ?_
      refine mj_dup2 dX11_noShow_75 rfl rfl ?_
      refine mS_lcrd x ((by first | assumption | exact ixn (by omega))) (by first | assumption | omega | decide) dX11_noShow_76 ?_
      refine mj_aload_n 2 dX11_noShow_77 rfl ?_
      refine mS_gbrd dX11_noShow_78 fgX11_7 x ?_
      refine mj_iconst (v := 0) dX11_noShow_81 rfl ?_
      refine mS_lbrd x ((show (0 : Int32).toInt = ((0 : Nat) : Int) from rfl)) (by first | assumption | omega | decide) dX11_noShow_82 ?_
      refine mj_eq ((show w_leaveG (gbrd M) r d l 2 0 = gbrd M 0 from w_leaveG_lo (by omega))) ?_
      refine mj_i2l dX11_noShow_83 rfl ?_
      refine mj_ladd dX11_noShow_84 ?_
      refine mS_acrd x ((by first | assumption | exact ixn (by omega))) (by first | assumption | omega | decide) dX11_noShow_85 (fun h x => ?_)
      refine mj_iload_n 1 dX11_noShow_86 rfl ?_
      exact mj_iret dX11_noShow_87 rfl (Nat.le_of_ble_eq_true rfl) (Nat.le_of_ble_eq_true rfl) ⟨rfl, rfl, x⟩
    · exact absurd hs c_27
  · exact absurd ((bI_0.mp c_10).symm.trans hb) (by decide)
set_option maxRecDepth 100000 in
set_option maxHeartbeats 4000000 in
theorem cs_comeBack_no {K : KX} {n : Nat} {h : MH} {h0 : MH} {m : Nat} {M : MS} (x : Ms h0 m M h) {i : Int32} (hb : b_in i 0 (gbrd M 2 - 1) = false) : Con K mX11_comeBack [.ref m, .int i] 0 0 n h (RetP (some (.long ((0 : Int32).toInt64))) n (Ms h0 m (sthr M 1))) := by
  refine Con.of (by decide +kernel) (Nat.le_of_ble_eq_true rfl) ?_
  refine mj_aload_n 0 dX11_comeBack_0 rfl ?_
  refine mj_iconst (v := 0) dX11_comeBack_1 rfl ?_
  refine mS_pthr dX11_comeBack_2 fgX11_61 x (fun h x => ?_)
  refine mj_aload_n 0 dX11_comeBack_5 rfl ?_
  refine mj_iload_n 1 dX11_comeBack_6 rfl ?_
  refine mS_cV1 x [_] dX11_comeBack_7 cwX11_isRider lkX11_112 rfl rfl rfl (cs_isRider x) ⟨Nat.le_of_ble_eq_true rfl, Nat.le_of_ble_eq_true rfl, Nat.le_of_ble_eq_true rfl, Nat.le_of_ble_eq_true rfl, Nat.le_of_ble_eq_true rfl⟩ (fun h x => ?_)
  refine mj_if_ne 20 dX11_comeBack_10 (by decide) (fun c_10 => ?_) (fun c_10 => ?_)
  · exact absurd ((bI_n0.mp c_10).symm.trans hb) (by decide)
  · refine mj_aload_n 0 dX11_comeBack_13 rfl ?_
    refine mj_iconst (v := 1) dX11_comeBack_14 rfl ?_
    refine mS_cV1 x [_] dX11_comeBack_15 cwX11_fail lkX11_79 rfl rfl rfl (cs_fail x (v := 1)) ⟨Nat.le_of_ble_eq_true rfl, Nat.le_of_ble_eq_true rfl, Nat.le_of_ble_eq_true rfl, Nat.le_of_ble_eq_true rfl, Nat.le_of_ble_eq_true rfl⟩ (fun h x => ?_)
    refine mj_i2l dX11_comeBack_18 rfl ?_
    exact mj_lret dX11_comeBack_19 rfl (Nat.le_of_ble_eq_true rfl) (Nat.le_of_ble_eq_true rfl) ⟨rfl, rfl, (by rw [sthr_ss] at x; exact x)⟩
set_option maxRecDepth 100000 in
set_option maxHeartbeats 4000000 in
theorem cs_comeBack_st {K : KX} {n : Nat} {h : MH} {h0 : MH} {m : Nat} {M : MS} (x : Ms h0 m M h) {r : Nat} (hr : r < 20) (hb : b_in (nI r) 0 (gbrd M 2 - 1) = true) (hs : ¬ gr (gbrd M) r 6 = 2) : Con K mX11_comeBack [.ref m, .int (nI r)] 0 0 n h (RetP (some (.long ((0 : Int32).toInt64))) n (Ms h0 m (sthr M 2))) := by
  refine Con.of (by decide +kernel) (Nat.le_of_ble_eq_true rfl) ?_
  refine mj_aload_n 0 dX11_comeBack_0 rfl ?_
  refine mj_iconst (v := 0) dX11_comeBack_1 rfl ?_
  refine mS_pthr dX11_comeBack_2 fgX11_61 x (fun h x => ?_)
  refine mj_aload_n 0 dX11_comeBack_5 rfl ?_
  refine mj_iload_n 1 dX11_comeBack_6 rfl ?_
  refine mS_cV1 x [_] dX11_comeBack_7 cwX11_isRider lkX11_112 rfl rfl rfl (cs_isRider x) ⟨Nat.le_of_ble_eq_true rfl, Nat.le_of_ble_eq_true rfl, Nat.le_of_ble_eq_true rfl, Nat.le_of_ble_eq_true rfl, Nat.le_of_ble_eq_true rfl⟩ (fun h x => ?_)
  refine mj_if_ne 20 dX11_comeBack_10 (by decide) (fun c_10 => ?_) (fun c_10 => ?_)
  · refine mj_aload_n 0 dX11_comeBack_20 rfl ?_
    refine mj_iload_n 1 dX11_comeBack_21 rfl ?_
    refine mj_bipush (v := (6)) dX11_comeBack_22 rfl ?_
    refine mS_cV1 x [_, _] dX11_comeBack_24 cwX11_rider lkX11_72 rfl rfl rfl (cs_rider x (r := r) (f := 6) hr (by decide)) ⟨Nat.le_of_ble_eq_true rfl, Nat.le_of_ble_eq_true rfl, Nat.le_of_ble_eq_true rfl, Nat.le_of_ble_eq_true rfl, Nat.le_of_ble_eq_true rfl⟩ (fun h x => ?_)
    refine mj_iconst (v := 2) dX11_comeBack_27 rfl ?_
    refine mj_icmp_eq 38 dX11_comeBack_28 (by decide) (fun c_28 => ?_) (fun c_28 => ?_)
    · exact absurd c_28 hs
    · refine mj_aload_n 0 dX11_comeBack_31 rfl ?_
      refine mj_iconst (v := 2) dX11_comeBack_32 rfl ?_
      refine mS_cV1 x [_] dX11_comeBack_33 cwX11_fail lkX11_79 rfl rfl rfl (cs_fail x (v := 2)) ⟨Nat.le_of_ble_eq_true rfl, Nat.le_of_ble_eq_true rfl, Nat.le_of_ble_eq_true rfl, Nat.le_of_ble_eq_true rfl, Nat.le_of_ble_eq_true rfl⟩ (fun h x => ?_)
      refine mj_i2l dX11_comeBack_36 rfl ?_
      exact mj_lret dX11_comeBack_37 rfl (Nat.le_of_ble_eq_true rfl) (Nat.le_of_ble_eq_true rfl) ⟨rfl, rfl, (by rw [sthr_ss] at x; exact x)⟩
  · exact absurd ((bI_0.mp c_10).symm.trans hb) (by decide)
set_option maxRecDepth 100000 in
set_option maxHeartbeats 4000000 in
theorem cs_comeBack {K : KX} {n : Nat} {h : MH} {h0 : MH} {m : Nat} {M : MS} (x : Ms h0 m M h) {r : Nat} (hr : r < 20) (hb : b_in (nI r) 0 (gbrd M 2 - 1) = true) (hs : gr (gbrd M) r 6 = 2) : Con K mX11_comeBack [.ref m, .int (nI r)] 0 0 n h (RetP (some (.long (gcrd M (8 + r)))) n (Ms h0 m (wR (sthr M 0) r 6 0))) := by
  refine Con.of (by decide +kernel) (Nat.le_of_ble_eq_true rfl) ?_
  refine mj_aload_n 0 dX11_comeBack_0 rfl ?_
  refine mj_iconst (v := 0) dX11_comeBack_1 rfl ?_
  refine mS_pthr dX11_comeBack_2 fgX11_61 x (fun h x => ?_)
  refine mj_aload_n 0 dX11_comeBack_5 rfl ?_
  refine mj_iload_n 1 dX11_comeBack_6 rfl ?_
  refine mS_cV1 x [_] dX11_comeBack_7 cwX11_isRider lkX11_112 rfl rfl rfl (cs_isRider x) ⟨Nat.le_of_ble_eq_true rfl, Nat.le_of_ble_eq_true rfl, Nat.le_of_ble_eq_true rfl, Nat.le_of_ble_eq_true rfl, Nat.le_of_ble_eq_true rfl⟩ (fun h x => ?_)
  refine mj_if_ne 20 dX11_comeBack_10 (by decide) (fun c_10 => ?_) (fun c_10 => ?_)
  · refine mj_aload_n 0 dX11_comeBack_20 rfl ?_
    refine mj_iload_n 1 dX11_comeBack_21 rfl ?_
    refine mj_bipush (v := (6)) dX11_comeBack_22 rfl ?_
    refine mS_cV1 x [_, _] dX11_comeBack_24 cwX11_rider lkX11_72 rfl rfl rfl (cs_rider x (r := r) (f := 6) hr (by decide)) ⟨Nat.le_of_ble_eq_true rfl, Nat.le_of_ble_eq_true rfl, Nat.le_of_ble_eq_true rfl, Nat.le_of_ble_eq_true rfl, Nat.le_of_ble_eq_true rfl⟩ (fun h x => ?_)
    refine mj_iconst (v := 2) dX11_comeBack_27 rfl ?_
    refine mj_icmp_eq 38 dX11_comeBack_28 (by decide) (fun c_28 => ?_) (fun c_28 => ?_)
    · refine mj_aload_n 0 dX11_comeBack_38 rfl ?_
      refine mj_iload_n 1 dX11_comeBack_39 rfl ?_
      refine mj_bipush (v := (6)) dX11_comeBack_40 rfl ?_
      refine mj_iconst (v := 0) dX11_comeBack_42 rfl ?_
      refine mS_cV0 x [_, _, _] dX11_comeBack_43 cwX11_setRider lkX11_105 rfl rfl rfl (cs_setRider x (r := r) (f := 6) (v := 0) hr (by decide)) ⟨Nat.le_of_ble_eq_true rfl, Nat.le_of_ble_eq_true rfl, Nat.le_of_ble_eq_true rfl, Nat.le_of_ble_eq_true rfl, Nat.le_of_ble_eq_true rfl⟩ (fun h x => ?_)
      refine mj_aload_n 0 dX11_comeBack_46 rfl ?_
      refine mS_gcrd dX11_comeBack_47 fgX11_19 x ?_
      refine mj_bipush (v := (8)) dX11_comeBack_50 rfl ?_
      refine mj_iload_n 1 dX11_comeBack_52 rfl ?_
      refine mj_iadd dX11_comeBack_53 ?_
      refine mS_lcrd x (ix_crd (by omega)) (by first | assumption | omega | decide) dX11_comeBack_54 ?_
      exact mj_lret dX11_comeBack_55 rfl (Nat.le_of_ble_eq_true rfl) (Nat.le_of_ble_eq_true rfl) ⟨rfl, rfl, x⟩
    · exact absurd hs c_28
  · exact absurd ((bI_0.mp c_10).symm.trans hb) (by decide)
set_option maxRecDepth 100000 in
set_option maxHeartbeats 4000000 in
theorem cs_riderCredit_no {K : KX} {n : Nat} {h : MH} {h0 : MH} {m : Nat} {M : MS} (x : Ms h0 m M h) {i : Int32} (hb : b_in i 0 (gbrd M 2 - 1) = false) : Con K mX11_riderCredit [.ref m, .int i] 0 0 n h (RetP (some (.long ((0 : Int32).toInt64))) n (Ms h0 m (sthr M 1))) := by
  refine Con.of (by decide +kernel) (Nat.le_of_ble_eq_true rfl) ?_
  refine mj_aload_n 0 dX11_riderCredit_0 rfl ?_
  refine mj_iconst (v := 0) dX11_riderCredit_1 rfl ?_
  refine mS_pthr dX11_riderCredit_2 fgX11_61 x (fun h x => ?_)
  refine mj_aload_n 0 dX11_riderCredit_5 rfl ?_
  refine mj_iload_n 1 dX11_riderCredit_6 rfl ?_
  refine mS_cV1 x [_] dX11_riderCredit_7 cwX11_isRider lkX11_112 rfl rfl rfl (cs_isRider x) ⟨Nat.le_of_ble_eq_true rfl, Nat.le_of_ble_eq_true rfl, Nat.le_of_ble_eq_true rfl, Nat.le_of_ble_eq_true rfl, Nat.le_of_ble_eq_true rfl⟩ (fun h x => ?_)
  refine mj_if_eq 25 dX11_riderCredit_10 (by decide) (fun c_10 => ?_) (fun c_10 => ?_)
  · refine mj_aload_n 0 dX11_riderCredit_25 rfl ?_
    refine mj_iconst (v := 1) dX11_riderCredit_26 rfl ?_
    refine mS_cV1 x [_] dX11_riderCredit_27 cwX11_fail lkX11_79 rfl rfl rfl (cs_fail x (v := 1)) ⟨Nat.le_of_ble_eq_true rfl, Nat.le_of_ble_eq_true rfl, Nat.le_of_ble_eq_true rfl, Nat.le_of_ble_eq_true rfl, Nat.le_of_ble_eq_true rfl⟩ (fun h x => ?_)
    refine mj_i2l dX11_riderCredit_30 rfl ?_
    exact mj_lret dX11_riderCredit_31 rfl (Nat.le_of_ble_eq_true rfl) (Nat.le_of_ble_eq_true rfl) ⟨rfl, rfl, (by rw [sthr_ss] at x; exact x)⟩
  · exact absurd ((bI_n0.mp c_10).symm.trans hb) (by decide)
set_option maxRecDepth 100000 in
set_option maxHeartbeats 4000000 in
theorem cs_riderCredit {K : KX} {n : Nat} {h : MH} {h0 : MH} {m : Nat} {M : MS} (x : Ms h0 m M h) {r : Nat} (hr : r < 20) (hb : b_in (nI r) 0 (gbrd M 2 - 1) = true) : Con K mX11_riderCredit [.ref m, .int (nI r)] 0 0 n h (RetP (some (.long (gcrd M (8 + r)))) n (Ms h0 m (sthr M 0))) := by
  refine Con.of (by decide +kernel) (Nat.le_of_ble_eq_true rfl) ?_
  refine mj_aload_n 0 dX11_riderCredit_0 rfl ?_
  refine mj_iconst (v := 0) dX11_riderCredit_1 rfl ?_
  refine mS_pthr dX11_riderCredit_2 fgX11_61 x (fun h x => ?_)
  refine mj_aload_n 0 dX11_riderCredit_5 rfl ?_
  refine mj_iload_n 1 dX11_riderCredit_6 rfl ?_
  refine mS_cV1 x [_] dX11_riderCredit_7 cwX11_isRider lkX11_112 rfl rfl rfl (cs_isRider x) ⟨Nat.le_of_ble_eq_true rfl, Nat.le_of_ble_eq_true rfl, Nat.le_of_ble_eq_true rfl, Nat.le_of_ble_eq_true rfl, Nat.le_of_ble_eq_true rfl⟩ (fun h x => ?_)
  refine mj_if_eq 25 dX11_riderCredit_10 (by decide) (fun c_10 => ?_) (fun c_10 => ?_)
  · exact absurd ((bI_0.mp c_10).symm.trans hb) (by decide)
  · refine mj_aload_n 0 dX11_riderCredit_13 rfl ?_
    refine mS_gcrd dX11_riderCredit_14 fgX11_19 x ?_
    refine mj_bipush (v := (8)) dX11_riderCredit_17 rfl ?_
    refine mj_iload_n 1 dX11_riderCredit_19 rfl ?_
    refine mj_iadd dX11_riderCredit_20 ?_
    refine mS_lcrd x (ix_crd (by omega)) (by first | assumption | omega | decide) dX11_riderCredit_21 ?_
    refine mj_goto 31 dX11_riderCredit_22 (by decide) ?_
    exact mj_lret dX11_riderCredit_31 rfl (Nat.le_of_ble_eq_true rfl) (Nat.le_of_ble_eq_true rfl) ⟨rfl, rfl, x⟩
set_option maxRecDepth 100000 in
set_option maxHeartbeats 4000000 in
theorem cs_driverCredit_no {K : KX} {n : Nat} {h : MH} {h0 : MH} {m : Nat} {M : MS} (x : Ms h0 m M h) {i : Int32} (hb : b_in i 0 (gbrd M 1 - 1) = false) : Con K mX11_driverCredit [.ref m, .int i] 0 0 n h (RetP (some (.long ((0 : Int32).toInt64))) n (Ms h0 m (sthr M 1))) := by
  refine Con.of (by decide +kernel) (Nat.le_of_ble_eq_true rfl) ?_
  refine mj_aload_n 0 dX11_driverCredit_0 rfl ?_
  refine mj_iconst (v := 0) dX11_driverCredit_1 rfl ?_
  refine mS_pthr dX11_driverCredit_2 fgX11_61 x (fun h x => ?_)
  refine mj_aload_n 0 dX11_driverCredit_5 rfl ?_
  refine mj_iload_n 1 dX11_driverCredit_6 rfl ?_
  refine mS_cV1 x [_] dX11_driverCredit_7 cwX11_isDriver lkX11_87 rfl rfl rfl (cs_isDriver x) ⟨Nat.le_of_ble_eq_true rfl, Nat.le_of_ble_eq_true rfl, Nat.le_of_ble_eq_true rfl, Nat.le_of_ble_eq_true rfl, Nat.le_of_ble_eq_true rfl⟩ (fun h x => ?_)
  refine mj_if_eq 22 dX11_driverCredit_10 (by decide) (fun c_10 => ?_) (fun c_10 => ?_)
  · refine mj_aload_n 0 dX11_driverCredit_22 rfl ?_
    refine mj_iconst (v := 1) dX11_driverCredit_23 rfl ?_
    refine mS_cV1 x [_] dX11_driverCredit_24 cwX11_fail lkX11_79 rfl rfl rfl (cs_fail x (v := 1)) ⟨Nat.le_of_ble_eq_true rfl, Nat.le_of_ble_eq_true rfl, Nat.le_of_ble_eq_true rfl, Nat.le_of_ble_eq_true rfl, Nat.le_of_ble_eq_true rfl⟩ (fun h x => ?_)
    refine mj_i2l dX11_driverCredit_27 rfl ?_
    exact mj_lret dX11_driverCredit_28 rfl (Nat.le_of_ble_eq_true rfl) (Nat.le_of_ble_eq_true rfl) ⟨rfl, rfl, (by rw [sthr_ss] at x; exact x)⟩
  · exact absurd ((bI_n0.mp c_10).symm.trans hb) (by decide)
set_option maxRecDepth 100000 in
set_option maxHeartbeats 4000000 in
theorem cs_driverCredit {K : KX} {n : Nat} {h : MH} {h0 : MH} {m : Nat} {M : MS} (x : Ms h0 m M h) {d : Nat} (hd : d < 8) (hb : b_in (nI d) 0 (gbrd M 1 - 1) = true) : Con K mX11_driverCredit [.ref m, .int (nI d)] 0 0 n h (RetP (some (.long (gcrd M d))) n (Ms h0 m (sthr M 0))) := by
  refine Con.of (by decide +kernel) (Nat.le_of_ble_eq_true rfl) ?_
  refine mj_aload_n 0 dX11_driverCredit_0 rfl ?_
  refine mj_iconst (v := 0) dX11_driverCredit_1 rfl ?_
  refine mS_pthr dX11_driverCredit_2 fgX11_61 x (fun h x => ?_)
  refine mj_aload_n 0 dX11_driverCredit_5 rfl ?_
  refine mj_iload_n 1 dX11_driverCredit_6 rfl ?_
  refine mS_cV1 x [_] dX11_driverCredit_7 cwX11_isDriver lkX11_87 rfl rfl rfl (cs_isDriver x) ⟨Nat.le_of_ble_eq_true rfl, Nat.le_of_ble_eq_true rfl, Nat.le_of_ble_eq_true rfl, Nat.le_of_ble_eq_true rfl, Nat.le_of_ble_eq_true rfl⟩ (fun h x => ?_)
  refine mj_if_eq 22 dX11_driverCredit_10 (by decide) (fun c_10 => ?_) (fun c_10 => ?_)
  · exact absurd ((bI_0.mp c_10).symm.trans hb) (by decide)
  · refine mj_aload_n 0 dX11_driverCredit_13 rfl ?_
    refine mS_gcrd dX11_driverCredit_14 fgX11_19 x ?_
    refine mj_iload_n 1 dX11_driverCredit_17 rfl ?_
    refine mS_lcrd x ((by first | assumption | exact ixn (by omega))) (by first | assumption | omega | decide) dX11_driverCredit_18 ?_
    refine mj_goto 28 dX11_driverCredit_19 (by decide) ?_
    exact mj_lret dX11_driverCredit_28 rfl (Nat.le_of_ble_eq_true rfl) (Nat.le_of_ble_eq_true rfl) ⟨rfl, rfl, x⟩
set_option maxRecDepth 100000 in
set_option maxHeartbeats 4000000 in
theorem cs_pay_no {K : KX} {n : Nat} {h : MH} {h0 : MH} {m : Nat} {M : MS} (x : Ms h0 m M h) {i v : Int32} (hb : b_in i 0 (gbrd M 2 - 1) = false) : Con K mX11_pay [.ref m, .int i, .int v] 0 0 n h (RetP (some (.long ((0 : Int32).toInt64))) n (Ms h0 m (sthr M 1))) := by
  refine Con.of (by decide +kernel) (Nat.le_of_ble_eq_true rfl) ?_
  refine mj_aload_n 0 dX11_pay_0 rfl ?_
  refine mj_iconst (v := 0) dX11_pay_1 rfl ?_
  refine mS_pthr dX11_pay_2 fgX11_61 x (fun h x => ?_)
  refine mj_aload_n 0 dX11_pay_5 rfl ?_
  refine mj_iload_n 1 dX11_pay_6 rfl ?_
  refine mS_cV1 x [_] dX11_pay_7 cwX11_isRider lkX11_112 rfl rfl rfl (cs_isRider x) ⟨Nat.le_of_ble_eq_true rfl, Nat.le_of_ble_eq_true rfl, Nat.le_of_ble_eq_true rfl, Nat.le_of_ble_eq_true rfl, Nat.le_of_ble_eq_true rfl⟩ (fun h x => ?_)
  refine mj_if_ne 20 dX11_pay_10 (by decide) (fun c_10 => ?_) (fun c_10 => ?_)
  · exact absurd ((bI_n0.mp c_10).symm.trans hb) (by decide)
  · refine mj_aload_n 0 dX11_pay_13 rfl ?_
    refine mj_iconst (v := 1) dX11_pay_14 rfl ?_
    refine mS_cV1 x [_] dX11_pay_15 cwX11_fail lkX11_79 rfl rfl rfl (cs_fail x (v := 1)) ⟨Nat.le_of_ble_eq_true rfl, Nat.le_of_ble_eq_true rfl, Nat.le_of_ble_eq_true rfl, Nat.le_of_ble_eq_true rfl, Nat.le_of_ble_eq_true rfl⟩ (fun h x => ?_)
    refine mj_i2l dX11_pay_18 rfl ?_
    exact mj_lret dX11_pay_19 rfl (Nat.le_of_ble_eq_true rfl) (Nat.le_of_ble_eq_true rfl) ⟨rfl, rfl, (by rw [sthr_ss] at x; exact x)⟩
set_option maxRecDepth 100000 in
set_option maxHeartbeats 4000000 in
theorem cs_pay_arg {K : KX} {n : Nat} {h : MH} {h0 : MH} {m : Nat} {M : MS} (x : Ms h0 m M h) {r : Nat} (hr : r < 20) (hb : b_in (nI r) 0 (gbrd M 2 - 1) = true) {v : Int32} (hv : b_in v (-9999) 9999 = false) : Con K mX11_pay [.ref m, .int (nI r), .int v] 0 0 n h (RetP (some (.long ((0 : Int32).toInt64))) n (Ms h0 m (sthr M 2))) := by
  refine Con.of (by decide +kernel) (Nat.le_of_ble_eq_true rfl) ?_
  refine mj_aload_n 0 dX11_pay_0 rfl ?_
  refine mj_iconst (v := 0) dX11_pay_1 rfl ?_
  refine mS_pthr dX11_pay_2 fgX11_61 x (fun h x => ?_)
  refine mj_aload_n 0 dX11_pay_5 rfl ?_
  refine mj_iload_n 1 dX11_pay_6 rfl ?_
  refine mS_cV1 x [_] dX11_pay_7 cwX11_isRider lkX11_112 rfl rfl rfl (cs_isRider x) ⟨Nat.le_of_ble_eq_true rfl, Nat.le_of_ble_eq_true rfl, Nat.le_of_ble_eq_true rfl, Nat.le_of_ble_eq_true rfl, Nat.le_of_ble_eq_true rfl⟩ (fun h x => ?_)
  refine mj_if_ne 20 dX11_pay_10 (by decide) (fun c_10 => ?_) (fun c_10 => ?_)
  · refine mj_iload_n 2 dX11_pay_20 rfl ?_
    refine mj_sipush (v := (-9999)) dX11_pay_21 rfl ?_
    refine mj_sipush (v := (9999)) dX11_pay_24 rfl ?_
    refine mj_cS1 [_, _, _] dX11_pay_27 cwX11_isBetween lkX11_64 rfl (cn_X11_isBetween _ _ _) ⟨Nat.le_of_ble_eq_true rfl, Nat.le_of_ble_eq_true rfl, Nat.le_of_ble_eq_true rfl, Nat.le_of_ble_eq_true rfl, Nat.le_of_ble_eq_true rfl⟩ (fun h' e' => ?_)
    subst h'
    refine mj_if_ne 40 dX11_pay_30 (by decide) (fun c_30 => ?_) (fun c_30 => ?_)
    · exact absurd ((bI_n0.mp c_30).symm.trans hv) (by decide)
    · refine mj_aload_n 0 dX11_pay_33 rfl ?_
      refine mj_iconst (v := 2) dX11_pay_34 rfl ?_
      refine mS_cV1 x [_] dX11_pay_35 cwX11_fail lkX11_79 rfl rfl rfl (cs_fail x (v := 2)) ⟨Nat.le_of_ble_eq_true rfl, Nat.le_of_ble_eq_true rfl, Nat.le_of_ble_eq_true rfl, Nat.le_of_ble_eq_true rfl, Nat.le_of_ble_eq_true rfl⟩ (fun h x => ?_)
      refine mj_i2l dX11_pay_38 rfl ?_
      exact mj_lret dX11_pay_39 rfl (Nat.le_of_ble_eq_true rfl) (Nat.le_of_ble_eq_true rfl) ⟨rfl, rfl, (by rw [sthr_ss] at x; exact x)⟩
  · exact absurd ((bI_0.mp c_10).symm.trans hb) (by decide)
set_option maxRecDepth 100000 in
set_option maxHeartbeats 4000000 in
theorem cs_pay {K : KX} {n : Nat} {h : MH} {h0 : MH} {m : Nat} {M : MS} (x : Ms h0 m M h) {r : Nat} (hr : r < 20) (hb : b_in (nI r) 0 (gbrd M 2 - 1) = true) {v : Int32} (hv : b_in v (-9999) 9999 = true) : Con K mX11_pay [.ref m, .int (nI r), .int v] 0 0 n h (RetP (some (.long (gcrd M (8 + r) + v.toInt64))) n (Ms h0 m (scrd (sthr M 0) (vp_updL (gcrd M) (8 + r) (gcrd M (8 + r) + v.toInt64))))) := by
  refine Con.of (by decide +kernel) (Nat.le_of_ble_eq_true rfl) ?_
  refine mj_aload_n 0 dX11_pay_0 rfl ?_
  refine mj_iconst (v := 0) dX11_pay_1 rfl ?_
  refine mS_pthr dX11_pay_2 fgX11_61 x (fun h x => ?_)
  refine mj_aload_n 0 dX11_pay_5 rfl ?_
  refine mj_iload_n 1 dX11_pay_6 rfl ?_
  refine mS_cV1 x [_] dX11_pay_7 cwX11_isRider lkX11_112 rfl rfl rfl (cs_isRider x) ⟨Nat.le_of_ble_eq_true rfl, Nat.le_of_ble_eq_true rfl, Nat.le_of_ble_eq_true rfl, Nat.le_of_ble_eq_true rfl, Nat.le_of_ble_eq_true rfl⟩ (fun h x => ?_)
  refine mj_if_ne 20 dX11_pay_10 (by decide) (fun c_10 => ?_) (fun c_10 => ?_)
  · refine mj_iload_n 2 dX11_pay_20 rfl ?_
    refine mj_sipush (v := (-9999)) dX11_pay_21 rfl ?_
    refine mj_sipush (v := (9999)) dX11_pay_24 rfl ?_
    refine mj_cS1 [_, _, _] dX11_pay_27 cwX11_isBetween lkX11_64 rfl (cn_X11_isBetween _ _ _) ⟨Nat.le_of_ble_eq_true rfl, Nat.le_of_ble_eq_true rfl, Nat.le_of_ble_eq_true rfl, Nat.le_of_ble_eq_true rfl, Nat.le_of_ble_eq_true rfl⟩ (fun h' e' => ?_)
    subst h'
    refine mj_if_ne 40 dX11_pay_30 (by decide) (fun c_30 => ?_) (fun c_30 => ?_)
    · refine mj_aload_n 0 dX11_pay_40 rfl ?_
      refine mS_gcrd dX11_pay_41 fgX11_19 x ?_
      refine mj_bipush (v := (8)) dX11_pay_44 rfl ?_
      refine mj_iload_n 1 dX11_pay_46 rfl ?_
      refine mj_iadd dX11_pay_47 ?_
      refine mj_dup2 dX11_pay_48 rfl rfl ?_
      refine mS_lcrd x (ix_crd (by omega)) (by first | assumption | omega | decide) dX11_pay_49 ?_
      refine mj_iload_n 2 dX11_pay_50 rfl ?_
      refine mj_i2l dX11_pay_51 rfl ?_
      refine mj_ladd dX11_pay_52 ?_
      refine mS_acrd x (ix_crd (by omega)) (by first | assumption | omega | decide) dX11_pay_53 (fun h x => ?_)
      refine mj_aload_n 0 dX11_pay_54 rfl ?_
      refine mS_gcrd dX11_pay_55 fgX11_19 x ?_
      refine mj_bipush (v := (8)) dX11_pay_58 rfl ?_
      refine mj_iload_n 1 dX11_pay_60 rfl ?_
      refine mj_iadd dX11_pay_61 ?_
      refine mS_lcrd x (ix_crd (by omega)) (by first | assumption | omega | decide) dX11_pay_62 ?_
      refine mj_eql (show vp_updL (gcrd M) (8 + r) (gcrd M (8 + r) + v.toInt64) (8 + r) = gcrd M (8 + r) + v.toInt64 from if_pos rfl) ?_
      exact mj_lret dX11_pay_63 rfl (Nat.le_of_ble_eq_true rfl) (Nat.le_of_ble_eq_true rfl) ⟨rfl, rfl, x⟩
    · exact absurd ((bI_0.mp c_30).symm.trans hv) (by decide)
  · exact absurd ((bI_0.mp c_10).symm.trans hb) (by decide)
set_option maxRecDepth 100000 in
set_option maxHeartbeats 4000000 in
theorem cs_marginal_no {K : KX} {n : Nat} {h : MH} {h0 : MH} {m : Nat} {M : MS} (x : Ms h0 m M h) {i : Int32} (hb : b_in i 0 (gbrd M 2 - 1) = false) : Con K mX11_marginal [.ref m, .int i] 0 0 n h (RetP (some (.int (0))) n (Ms h0 m (sthr M 1))) := by
  refine Con.of (by decide +kernel) (Nat.le_of_ble_eq_true rfl) ?_
  refine mj_aload_n 0 dX11_marginal_0 rfl ?_
  refine mj_iconst (v := 0) dX11_marginal_1 rfl ?_
  refine mS_pthr dX11_marginal_2 fgX11_61 x (fun h x => ?_)
  refine mj_aload_n 0 dX11_marginal_5 rfl ?_
  refine mj_iload_n 1 dX11_marginal_6 rfl ?_
  refine mS_cV1 x [_] dX11_marginal_7 cwX11_isRider lkX11_112 rfl rfl rfl (cs_isRider x) ⟨Nat.le_of_ble_eq_true rfl, Nat.le_of_ble_eq_true rfl, Nat.le_of_ble_eq_true rfl, Nat.le_of_ble_eq_true rfl, Nat.le_of_ble_eq_true rfl⟩ (fun h x => ?_)
  refine mj_if_ne 19 dX11_marginal_10 (by decide) (fun c_10 => ?_) (fun c_10 => ?_)
  · exact absurd ((bI_n0.mp c_10).symm.trans hb) (by decide)
  · refine mj_aload_n 0 dX11_marginal_13 rfl ?_
    refine mj_iconst (v := 1) dX11_marginal_14 rfl ?_
    refine mS_cV1 x [_] dX11_marginal_15 cwX11_fail lkX11_79 rfl rfl rfl (cs_fail x (v := 1)) ⟨Nat.le_of_ble_eq_true rfl, Nat.le_of_ble_eq_true rfl, Nat.le_of_ble_eq_true rfl, Nat.le_of_ble_eq_true rfl, Nat.le_of_ble_eq_true rfl⟩ (fun h x => ?_)
    exact mj_iret dX11_marginal_18 rfl (Nat.le_of_ble_eq_true rfl) (Nat.le_of_ble_eq_true rfl) ⟨rfl, rfl, (by rw [sthr_ss] at x; exact x)⟩
set_option maxRecDepth 100000 in
set_option maxHeartbeats 4000000 in
theorem cs_marginal_none {K : KX} {n : Nat} {h : MH} {h0 : MH} {m : Nat} {M : MS} (x : Ms h0 m M h) {r : Nat} (hr : r < 20) (hb : b_in (nI r) 0 (gbrd M 2 - 1) = true) (hs : gr (gbrd M) r 7 = -1) : Con K mX11_marginal [.ref m, .int (nI r)] 0 0 n h (RetP (some (.int (-1))) n (Ms h0 m (sthr M 0))) := by
  refine Con.of (by decide +kernel) (Nat.le_of_ble_eq_true rfl) ?_
  refine mj_aload_n 0 dX11_marginal_0 rfl ?_
  refine mj_iconst (v := 0) dX11_marginal_1 rfl ?_
  refine mS_pthr dX11_marginal_2 fgX11_61 x (fun h x => ?_)
  refine mj_aload_n 0 dX11_marginal_5 rfl ?_
  refine mj_iload_n 1 dX11_marginal_6 rfl ?_
  refine mS_cV1 x [_] dX11_marginal_7 cwX11_isRider lkX11_112 rfl rfl rfl (cs_isRider x) ⟨Nat.le_of_ble_eq_true rfl, Nat.le_of_ble_eq_true rfl, Nat.le_of_ble_eq_true rfl, Nat.le_of_ble_eq_true rfl, Nat.le_of_ble_eq_true rfl⟩ (fun h x => ?_)
  refine mj_if_ne 19 dX11_marginal_10 (by decide) (fun c_10 => ?_) (fun c_10 => ?_)
  · refine mj_aload_n 0 dX11_marginal_19 rfl ?_
    refine mj_iload_n 1 dX11_marginal_20 rfl ?_
    refine mj_bipush (v := (7)) dX11_marginal_21 rfl ?_
    refine mS_cV1 x [_, _] dX11_marginal_23 cwX11_rider lkX11_72 rfl rfl rfl (cs_rider x (r := r) (f := 7) hr (by decide)) ⟨Nat.le_of_ble_eq_true rfl, Nat.le_of_ble_eq_true rfl, Nat.le_of_ble_eq_true rfl, Nat.le_of_ble_eq_true rfl, Nat.le_of_ble_eq_true rfl⟩ (fun h x => ?_)
    refine mj_iconst (v := (-1)) dX11_marginal_26 rfl ?_
    refine mj_icmp_ne 34 dX11_marginal_27 (by decide) (fun c_27 => ?_) (fun c_27 => ?_)
    · exact absurd hs c_27
    · refine mj_iconst (v := (-1)) dX11_marginal_30 rfl ?_
      refine mj_goto 39 dX11_marginal_31 (by decide) ?_
      exact mj_iret dX11_marginal_39 rfl (Nat.le_of_ble_eq_true rfl) (Nat.le_of_ble_eq_true rfl) ⟨rfl, rfl, x⟩
  · exact absurd ((bI_0.mp c_10).symm.trans hb) (by decide)
set_option maxRecDepth 100000 in
set_option maxHeartbeats 4000000 in
theorem cs_marginal {K : KX} {n : Nat} {h : MH} {h0 : MH} {m : Nat} {M : MS} (x : Ms h0 m M h) {r : Nat} (hr : r < 20) (hb : b_in (nI r) 0 (gbrd M 2 - 1) = true) {d : Nat} (hd : d < 8) {l : List Int32} (hg : Rok (gbrd M) d l) (hdr : gr (gbrd M) r 7 = nI d) : Con K mX11_marginal [.ref m, .int (nI r)] 0 0 n h (RetP (some (.int (w_marg (gbrd M) r d l))) n (Ms h0 m (sthr M 0))) := by
  refine Con.of (by decide +kernel) (Nat.le_of_ble_eq_true rfl) ?_
  refine mj_aload_n 0 dX11_marginal_0 rfl ?_
  refine mj_iconst (v := 0) dX11_marginal_1 rfl ?_
  refine mS_pthr dX11_marginal_2 fgX11_61 x (fun h x => ?_)
  refine mj_aload_n 0 dX11_marginal_5 rfl ?_
  refine mj_iload_n 1 dX11_marginal_6 rfl ?_
  refine mS_cV1 x [_] dX11_marginal_7 cwX11_isRider lkX11_112 rfl rfl rfl (cs_isRider x) ⟨Nat.le_of_ble_eq_true rfl, Nat.le_of_ble_eq_true rfl, Nat.le_of_ble_eq_true rfl, Nat.le_of_ble_eq_true rfl, Nat.le_of_ble_eq_true rfl⟩ (fun h x => ?_)
  refine mj_if_ne 19 dX11_marginal_10 (by decide) (fun c_10 => ?_) (fun c_10 => ?_)
  · refine mj_aload_n 0 dX11_marginal_19 rfl ?_
    refine mj_iload_n 1 dX11_marginal_20 rfl ?_
    refine mj_bipush (v := (7)) dX11_marginal_21 rfl ?_
    refine mS_cV1 x [_, _] dX11_marginal_23 cwX11_rider lkX11_72 rfl rfl rfl (cs_rider x (r := r) (f := 7) hr (by decide)) ⟨Nat.le_of_ble_eq_true rfl, Nat.le_of_ble_eq_true rfl, Nat.le_of_ble_eq_true rfl, Nat.le_of_ble_eq_true rfl, Nat.le_of_ble_eq_true rfl⟩ (fun h x => ?_)
    refine mj_iconst (v := (-1)) dX11_marginal_26 rfl ?_
    refine mj_icmp_ne 34 dX11_marginal_27 (by decide) (fun c_27 => ?_) (fun c_27 => ?_)
    · refine mj_aload_n 0 dX11_marginal_34 rfl ?_
      refine mj_iload_n 1 dX11_marginal_35 rfl ?_
      refine mS_cV1 x [_] dX11_marginal_36 cwX11_marginalOf lkX11_251 rfl rfl rfl (cs_marginalOf x hr hd hg hdr) ⟨Nat.le_of_ble_eq_true rfl, Nat.le_of_ble_eq_true rfl, Nat.le_of_ble_eq_true rfl, Nat.le_of_ble_eq_true rfl, Nat.le_of_ble_eq_true rfl⟩ (fun h x => ?_)
      exact mj_iret dX11_marginal_39 rfl (Nat.le_of_ble_eq_true rfl) (Nat.le_of_ble_eq_true rfl) ⟨rfl, rfl, x⟩
    · exact absurd ((show nI d = gr (gbrd M) r 7 from hdr.symm).trans c_27) (nI_ne_m1 (by omega))
  · exact absurd ((bI_0.mp c_10).symm.trans hb) (by decide)
def c_more (c : Nat → Int64) (r q : Nat) : Bool := if c (8 + r) = c (8 + q) then decide (r < q) else decide (c (8 + q) < c (8 + r))
def w_rex (g : Nat → Int32) (d : Nat) (l : List Int32) (r : Nat) : Int32 := if gd g d 8 = 0 ∧ gr g r 6 = 0 then w_extra g r d l else 1000000000
def w_rp (g : Nat → Int32) (c : Nat → Int64) (d : Nat) (l : List Int32) : Nat → Int32 × Int32
  | 0 => (-1, 1000000000)
  | k + 1 => if w_rex g d l k < (w_rp g c d l k).2 ∨ (w_rex g d l k = (w_rp g c d l k).2 ∧ w_rex g d l k < 1000000000 ∧ c_more c k (i_nat (w_rp g c d l k).1) = true) then (nI k, w_rex g d l k) else w_rp g c d l k
theorem w_rp_ix (g : Nat → Int32) (c : Nat → Int64) (d : Nat) (l : List Int32) : ∀ k, ((w_rp g c d l k).1 = -1 ∧ (w_rp g c d l k).2 = 1000000000) ∨ ∃ r, r < k ∧ (w_rp g c d l k).1 = nI r
  | 0 => Or.inl ⟨rfl, rfl⟩
  | k + 1 => by
    unfold w_rp
    split
    · exact Or.inr ⟨k, by omega, rfl⟩
    · exact (w_rp_ix g c d l k).imp id (fun ⟨r, h1, h2⟩ => ⟨r, by omega, h2⟩)
set_option maxRecDepth 100000 in
set_option maxHeartbeats 4000000 in
theorem cs_replacementOf {K : KX} {n : Nat} {h : MH} {h0 : MH} {m : Nat} {M : MS} (x : Ms h0 m M h) {d : Nat} (hd : d < 8) {nr : Nat} (hnr : gbrd M 2 = nI nr) (h20 : nr ≤ 20) {l : List Int32} (hg : Rok (gbrd M) d l) : Con K mX11_replacementOf [.ref m, .int (nI d)] 0 0 n h (RetP (some (.int (w_rp (gbrd M) (gcrd M) d l nr).1)) n (Ms h0 m M)) := by
  refine Con.of (by decide +kernel) (Nat.le_of_ble_eq_true rfl) ?_
  have loop : ∀ (f : Nat) (k : Nat) (b e : Int32) (h1 : MH), k + f = nr → w_rp (gbrd M) (gcrd M) d l k = (b, e) → Ms h0 m M h1 → GG (K, mX11_replacementOf, 0, 0, RetP (some (.int (w_rp (gbrd M) (gcrd M) d l nr).1)) n (Ms h0 m M)) 0 0 8 [(4, .int (nI k)), (3, .int e), (2, .int b), (0, .ref m), (1, .int (nI d))] [] n h1 := by
    intro f
    induction f with
    | zero =>
      intro k b e h1 hk hs x
      refine mj_iload 0 dX11_replacementOf_8 rfl ?_
      refine mj_aload_n 3 dX11_replacementOf_10 rfl ?_
      refine mS_gbrd dX11_replacementOf_11 fgX11_7 x ?_
      refine mj_iconst (v := 2) dX11_replacementOf_14 rfl ?_
      refine mS_lbrd x ((show (2 : Int32).toInt = ((2 : Nat) : Int) from rfl)) (by first | assumption | omega | decide) dX11_replacementOf_15 ?_
      refine mj_eq (hnr) ?_
      refine mj_icmp_ge 93 dX11_replacementOf_16 (by decide) (fun c_16 => ?_) (fun c_16 => ?_)
      · refine mj_iload_n 2 dX11_replacementOf_93 rfl ?_
        exact mj_iret dX11_replacementOf_94 rfl (Nat.le_of_ble_eq_true rfl) (Nat.le_of_ble_eq_true rfl) ⟨(by rw [show nr = k by omega, hs]), rfl, x⟩
      · exact absurd (nI_le (by omega) (by omega)) c_16
    | succ f ih =>
      intro k b e h1 hk hs x
      refine mj_iload 0 dX11_replacementOf_8 rfl ?_
      refine mj_aload_n 3 dX11_replacementOf_10 rfl ?_
      refine mS_gbrd dX11_replacementOf_11 fgX11_7 x ?_
      refine mj_iconst (v := 2) dX11_replacementOf_14 rfl ?_
      refine mS_lbrd x ((show (2 : Int32).toInt = ((2 : Nat) : Int) from rfl)) (by first | assumption | omega | decide) dX11_replacementOf_15 ?_
      refine mj_eq (hnr) ?_
      refine mj_icmp_ge 93 dX11_replacementOf_16 (by decide) (fun c_16 => ?_) (fun c_16 => ?_)
      · exact absurd c_16 (nI_ge (by omega) (by omega))
      · refine mj_aload_n 3 dX11_replacementOf_19 rfl ?_
        refine mj_iload_n 4 dX11_replacementOf_20 rfl ?_
        refine mS_cV1 x [_] dX11_replacementOf_21 cwX11_isOpen lkX11_95 rfl rfl rfl (cs_isOpen x hd) ⟨Nat.le_of_ble_eq_true rfl, Nat.le_of_ble_eq_true rfl, Nat.le_of_ble_eq_true rfl, Nat.le_of_ble_eq_true rfl, Nat.le_of_ble_eq_true rfl⟩ (fun h x => ?_)
        refine mj_if_eq 48 dX11_replacementOf_24 (by decide) (fun c_24 => ?_) (fun c_24 => ?_)
        · have fe : w_rex (gbrd M) d l k = 1000000000 := if_neg (fun z => of_decide_eq_false (bI_0.mp c_24) z.1)
          refine mj_ldc dX11_replacementOf_48 ctX11_166 ?_
          refine mj_istore (ls' := [(5, _), (4, _), (3, _), (2, _), (0, _), (1, _)]) dX11_replacementOf_50 (Nat.le_of_ble_eq_true rfl) rfl ?_
          refine mj_iload 0 dX11_replacementOf_52 rfl ?_
          refine mj_iload_n 2 dX11_replacementOf_54 rfl ?_
          refine mj_icmp_lt 81 dX11_replacementOf_55 (by decide) (fun c_55 => ?_) (fun c_55 => ?_)
          · refine mj_iload 0 dX11_replacementOf_81 rfl ?_
            refine mj_istore_n (ls' := [(3, _), (5, _), (4, _), (2, _), (0, _), (1, _)]) dX11_replacementOf_83 (Nat.le_of_ble_eq_true rfl) rfl ?_
            refine mj_iload 2 dX11_replacementOf_84 rfl ?_
            refine mj_istore_n (ls' := [(2, _), (3, _), (5, _), (4, _), (0, _), (1, _)]) dX11_replacementOf_86 (Nat.le_of_ble_eq_true rfl) rfl ?_
            refine mj_iinc (ls' := [(4, _), (2, _), (3, _), (5, _), (0, _), (1, _)]) 3 dX11_replacementOf_87 rfl (nI_s _) (Nat.le_of_ble_eq_true rfl) rfl ?_
            refine mj_goto 8 dX11_replacementOf_90 (by decide) ?_
            exact mj_ls [0, 2, 1, 4, 5] rfl (ih (k + 1) _ _ h (by omega) (by unfold w_rp; rw [hs]; dsimp only; rw [fe, if_pos (Or.inl c_55)]) x)
          · refine mj_iload 0 dX11_replacementOf_58 rfl ?_
            refine mj_iload_n 2 dX11_replacementOf_60 rfl ?_
            refine mj_icmp_ne 87 dX11_replacementOf_61 (by decide) (fun c_61 => ?_) (fun c_61 => ?_)
            · refine mj_iinc (ls' := [(4, _), (5, _), (3, _), (2, _), (0, _), (1, _)]) 1 dX11_replacementOf_87 rfl (nI_s _) (Nat.le_of_ble_eq_true rfl) rfl ?_
              refine mj_goto 8 dX11_replacementOf_90 (by decide) ?_
              exact mj_ls [0, 2, 3, 4, 5] rfl (ih (k + 1) b e h (by omega) (by unfold w_rp; rw [hs]; dsimp only; rw [fe, if_neg (fun z => z.elim c_55 (fun z => c_61 z.1))]) x)
            · refine mj_iload 0 dX11_replacementOf_64 rfl ?_
              refine mj_ldc dX11_replacementOf_66 ctX11_166 ?_
              refine mj_icmp_ge 87 dX11_replacementOf_68 (by decide) (fun c_68 => ?_) (fun c_68 => ?_)
              · refine mj_iinc (ls' := [(4, _), (5, _), (3, _), (2, _), (0, _), (1, _)]) 1 dX11_replacementOf_87 rfl (nI_s _) (Nat.le_of_ble_eq_true rfl) rfl ?_
                refine mj_goto 8 dX11_replacementOf_90 (by decide) ?_
                exact mj_ls [0, 2, 3, 4, 5] rfl (ih (k + 1) b e h (by omega) (by unfold w_rp; rw [hs]; dsimp only; rw [fe, if_neg (fun z => z.elim c_55 (fun z => absurd z.2.1 (Int32.not_lt.mpr c_68)))]) x)
              · have hix := w_rp_ix (gbrd M) (gcrd M) d l k
                rw [hs] at hix
                obtain ⟨q9, hq9, hq⟩ : ∃ q, q < k ∧ b = nI q := by
                  rcases hix with ⟨_, h2⟩ | h2
                  · exfalso
                    have h2 : e = 1000000000 := h2
                    rw [h2] at c_61
                    exact c_68 (by rw [c_61]; exact Int32.le_refl _)
                  · exact h2
                have hqn : i_nat b = q9 := by rw [hq]; exact i_nat_nI (by omega)
                refine mj_aload_n 4 dX11_replacementOf_71 rfl ?_
                refine mj_iload 1 dX11_replacementOf_72 rfl ?_
                refine mj_iload_n 3 dX11_replacementOf_74 rfl ?_
                refine mj_eq (hq) ?_
                refine mS_cV1 x [_, _] dX11_replacementOf_75 cwX11_hasMore lkX11_203 rfl rfl rfl (cs_hasMore x (r := k) (q := q9) (by omega) (by omega)) ⟨Nat.le_of_ble_eq_true rfl, Nat.le_of_ble_eq_true rfl, Nat.le_of_ble_eq_true rfl, Nat.le_of_ble_eq_true rfl, Nat.le_of_ble_eq_true rfl⟩ (fun h x => ?_)
                refine mj_if_eq 87 dX11_replacementOf_78 (by decide) (fun c_78 => ?_) (fun c_78 => ?_)
                · have z3 := bI_0.mp c_78
                  refine mj_iinc (ls' := [(4, _), (5, _), (3, _), (2, _), (0, _), (1, _)]) 1 dX11_replacementOf_87 rfl (nI_s _) (Nat.le_of_ble_eq_true rfl) rfl ?_
                  refine mj_goto 8 dX11_replacementOf_90 (by decide) ?_
                  exact mj_ls [0, 2, 3, 4, 5] rfl (ih (k + 1) b e h (by omega) (by unfold w_rp; rw [hs]; dsimp only; rw [fe, if_neg (fun z => z.elim c_55 (fun z => by rw [hqn] at z; exact absurd (z3.symm.trans z.2.2) (by decide)))]) x)
                · have z3 := bI_n0.mp c_78
                  refine mj_iload 0 dX11_replacementOf_81 rfl ?_
                  refine mj_istore_n (ls' := [(3, _), (5, _), (4, _), (2, _), (0, _), (1, _)]) dX11_replacementOf_83 (Nat.le_of_ble_eq_true rfl) rfl ?_
                  refine mj_iload 2 dX11_replacementOf_84 rfl ?_
                  refine mj_istore_n (ls' := [(2, _), (3, _), (5, _), (4, _), (0, _), (1, _)]) dX11_replacementOf_86 (Nat.le_of_ble_eq_true rfl) rfl ?_
                  refine mj_iinc (ls' := [(4, _), (2, _), (3, _), (5, _), (0, _), (1, _)]) 3 dX11_replacementOf_87 rfl (nI_s _) (Nat.le_of_ble_eq_true rfl) rfl ?_
                  refine mj_goto 8 dX11_replacementOf_90 (by decide) ?_
                  exact mj_ls [0, 2, 1, 4, 5] rfl (ih (k + 1) _ _ h (by omega) (by unfold w_rp; rw [hs]; dsimp only; rw [fe, if_pos (Or.inr ⟨c_61, Int32.not_le.mp c_68, by rw [hqn]; exact z3⟩)]) x)
        · have z1 := of_decide_eq_true (bI_n0.mp c_24)
          refine mj_aload_n 3 dX11_replacementOf_27 rfl ?_
          refine mj_iload 0 dX11_replacementOf_28 rfl ?_
          refine mj_bipush (v := (6)) dX11_replacementOf_30 rfl ?_
          refine mS_cV1 x [_, _] dX11_replacementOf_32 cwX11_rider lkX11_72 rfl rfl rfl (cs_rider x (r := k) (f := 6) (by omega) (by decide)) ⟨Nat.le_of_ble_eq_true rfl, Nat.le_of_ble_eq_true rfl, Nat.le_of_ble_eq_true rfl, Nat.le_of_ble_eq_true rfl, Nat.le_of_ble_eq_true rfl⟩ (fun h x => ?_)
          refine mj_if_ne 48 dX11_replacementOf_35 (by decide) (fun c_35 => ?_) (fun c_35 => ?_)
          · have fe : w_rex (gbrd M) d l k = 1000000000 := if_neg (fun z => absurd z.2 c_35)
            refine mj_ldc dX11_replacementOf_48 ctX11_166 ?_
            refine mj_istore (ls' := [(5, _), (4, _), (3, _), (2, _), (0, _), (1, _)]) dX11_replacementOf_50 (Nat.le_of_ble_eq_true rfl) rfl ?_
            refine mj_iload 0 dX11_replacementOf_52 rfl ?_
            refine mj_iload_n 2 dX11_replacementOf_54 rfl ?_
            refine mj_icmp_lt 81 dX11_replacementOf_55 (by decide) (fun c_55 => ?_) (fun c_55 => ?_)
            · refine mj_iload 0 dX11_replacementOf_81 rfl ?_
              refine mj_istore_n (ls' := [(3, _), (5, _), (4, _), (2, _), (0, _), (1, _)]) dX11_replacementOf_83 (Nat.le_of_ble_eq_true rfl) rfl ?_
              refine mj_iload 2 dX11_replacementOf_84 rfl ?_
              refine mj_istore_n (ls' := [(2, _), (3, _), (5, _), (4, _), (0, _), (1, _)]) dX11_replacementOf_86 (Nat.le_of_ble_eq_true rfl) rfl ?_
              refine mj_iinc (ls' := [(4, _), (2, _), (3, _), (5, _), (0, _), (1, _)]) 3 dX11_replacementOf_87 rfl (nI_s _) (Nat.le_of_ble_eq_true rfl) rfl ?_
              refine mj_goto 8 dX11_replacementOf_90 (by decide) ?_
              exact mj_ls [0, 2, 1, 4, 5] rfl (ih (k + 1) _ _ h (by omega) (by unfold w_rp; rw [hs]; dsimp only; rw [fe, if_pos (Or.inl c_55)]) x)
            · refine mj_iload 0 dX11_replacementOf_58 rfl ?_
              refine mj_iload_n 2 dX11_replacementOf_60 rfl ?_
              refine mj_icmp_ne 87 dX11_replacementOf_61 (by decide) (fun c_61 => ?_) (fun c_61 => ?_)
              · refine mj_iinc (ls' := [(4, _), (5, _), (3, _), (2, _), (0, _), (1, _)]) 1 dX11_replacementOf_87 rfl (nI_s _) (Nat.le_of_ble_eq_true rfl) rfl ?_
                refine mj_goto 8 dX11_replacementOf_90 (by decide) ?_
                exact mj_ls [0, 2, 3, 4, 5] rfl (ih (k + 1) b e h (by omega) (by unfold w_rp; rw [hs]; dsimp only; rw [fe, if_neg (fun z => z.elim c_55 (fun z => c_61 z.1))]) x)
              · refine mj_iload 0 dX11_replacementOf_64 rfl ?_
                refine mj_ldc dX11_replacementOf_66 ctX11_166 ?_
                refine mj_icmp_ge 87 dX11_replacementOf_68 (by decide) (fun c_68 => ?_) (fun c_68 => ?_)
                · refine mj_iinc (ls' := [(4, _), (5, _), (3, _), (2, _), (0, _), (1, _)]) 1 dX11_replacementOf_87 rfl (nI_s _) (Nat.le_of_ble_eq_true rfl) rfl ?_
                  refine mj_goto 8 dX11_replacementOf_90 (by decide) ?_
                  exact mj_ls [0, 2, 3, 4, 5] rfl (ih (k + 1) b e h (by omega) (by unfold w_rp; rw [hs]; dsimp only; rw [fe, if_neg (fun z => z.elim c_55 (fun z => absurd z.2.1 (Int32.not_lt.mpr c_68)))]) x)
                · have hix := w_rp_ix (gbrd M) (gcrd M) d l k
                  rw [hs] at hix
                  obtain ⟨q9, hq9, hq⟩ : ∃ q, q < k ∧ b = nI q := by
                    rcases hix with ⟨_, h2⟩ | h2
                    · exfalso
                      have h2 : e = 1000000000 := h2
                      rw [h2] at c_61
                      exact c_68 (by rw [c_61]; exact Int32.le_refl _)
                    · exact h2
                  have hqn : i_nat b = q9 := by rw [hq]; exact i_nat_nI (by omega)
                  refine mj_aload_n 4 dX11_replacementOf_71 rfl ?_
                  refine mj_iload 1 dX11_replacementOf_72 rfl ?_
                  refine mj_iload_n 3 dX11_replacementOf_74 rfl ?_
                  refine mj_eq (hq) ?_
                  refine mS_cV1 x [_, _] dX11_replacementOf_75 cwX11_hasMore lkX11_203 rfl rfl rfl (cs_hasMore x (r := k) (q := q9) (by omega) (by omega)) ⟨Nat.le_of_ble_eq_true rfl, Nat.le_of_ble_eq_true rfl, Nat.le_of_ble_eq_true rfl, Nat.le_of_ble_eq_true rfl, Nat.le_of_ble_eq_true rfl⟩ (fun h x => ?_)
                  refine mj_if_eq 87 dX11_replacementOf_78 (by decide) (fun c_78 => ?_) (fun c_78 => ?_)
                  · have z3 := bI_0.mp c_78
                    refine mj_iinc (ls' := [(4, _), (5, _), (3, _), (2, _), (0, _), (1, _)]) 1 dX11_replacementOf_87 rfl (nI_s _) (Nat.le_of_ble_eq_true rfl) rfl ?_
                    refine mj_goto 8 dX11_replacementOf_90 (by decide) ?_
                    exact mj_ls [0, 2, 3, 4, 5] rfl (ih (k + 1) b e h (by omega) (by unfold w_rp; rw [hs]; dsimp only; rw [fe, if_neg (fun z => z.elim c_55 (fun z => by rw [hqn] at z; exact absurd (z3.symm.trans z.2.2) (by decide)))]) x)
                  · have z3 := bI_n0.mp c_78
                    refine mj_iload 0 dX11_replacementOf_81 rfl ?_
                    refine mj_istore_n (ls' := [(3, _), (5, _), (4, _), (2, _), (0, _), (1, _)]) dX11_replacementOf_83 (Nat.le_of_ble_eq_true rfl) rfl ?_
                    refine mj_iload 2 dX11_replacementOf_84 rfl ?_
                    refine mj_istore_n (ls' := [(2, _), (3, _), (5, _), (4, _), (0, _), (1, _)]) dX11_replacementOf_86 (Nat.le_of_ble_eq_true rfl) rfl ?_
                    refine mj_iinc (ls' := [(4, _), (2, _), (3, _), (5, _), (0, _), (1, _)]) 3 dX11_replacementOf_87 rfl (nI_s _) (Nat.le_of_ble_eq_true rfl) rfl ?_
                    refine mj_goto 8 dX11_replacementOf_90 (by decide) ?_
                    exact mj_ls [0, 2, 1, 4, 5] rfl (ih (k + 1) _ _ h (by omega) (by unfold w_rp; rw [hs]; dsimp only; rw [fe, if_pos (Or.inr ⟨c_61, Int32.not_le.mp c_68, by rw [hqn]; exact z3⟩)]) x)
          · have fe : w_rex (gbrd M) d l k = w_extra (gbrd M) k d l := if_pos ⟨z1, c_35⟩
            refine mj_aload_n 3 dX11_replacementOf_38 rfl ?_
            refine mj_iload 0 dX11_replacementOf_39 rfl ?_
            refine mj_iload_n 4 dX11_replacementOf_41 rfl ?_
            refine mS_cV1 x [_, _] dX11_replacementOf_42 cwX11_extraOf lkX11_182 rfl rfl rfl (cs_extraOf x (r := k) (by omega) hd hg) ⟨Nat.le_of_ble_eq_true rfl, Nat.le_of_ble_eq_true rfl, Nat.le_of_ble_eq_true rfl, Nat.le_of_ble_eq_true rfl, Nat.le_of_ble_eq_true rfl⟩ (fun h x => ?_)
            refine mj_eq (fe.symm) ?_
            have fe : w_rex (gbrd M) d l k = w_rex (gbrd M) d l k := rfl
            refine mj_goto 50 dX11_replacementOf_45 (by decide) ?_
            refine mj_istore (ls' := [(5, _), (4, _), (3, _), (2, _), (0, _), (1, _)]) dX11_replacementOf_50 (Nat.le_of_ble_eq_true rfl) rfl ?_
            refine mj_iload 0 dX11_replacementOf_52 rfl ?_
            refine mj_iload_n 2 dX11_replacementOf_54 rfl ?_
            refine mj_icmp_lt 81 dX11_replacementOf_55 (by decide) (fun c_55 => ?_) (fun c_55 => ?_)
            · refine mj_iload 0 dX11_replacementOf_81 rfl ?_
              refine mj_istore_n (ls' := [(3, _), (5, _), (4, _), (2, _), (0, _), (1, _)]) dX11_replacementOf_83 (Nat.le_of_ble_eq_true rfl) rfl ?_
              refine mj_iload 2 dX11_replacementOf_84 rfl ?_
              refine mj_istore_n (ls' := [(2, _), (3, _), (5, _), (4, _), (0, _), (1, _)]) dX11_replacementOf_86 (Nat.le_of_ble_eq_true rfl) rfl ?_
              refine mj_iinc (ls' := [(4, _), (2, _), (3, _), (5, _), (0, _), (1, _)]) 3 dX11_replacementOf_87 rfl (nI_s _) (Nat.le_of_ble_eq_true rfl) rfl ?_
              refine mj_goto 8 dX11_replacementOf_90 (by decide) ?_
              exact mj_ls [0, 2, 1, 4, 5] rfl (ih (k + 1) _ _ h (by omega) (by unfold w_rp; rw [hs]; dsimp only; rw [fe, if_pos (Or.inl c_55)]) x)
            · refine mj_iload 0 dX11_replacementOf_58 rfl ?_
              refine mj_iload_n 2 dX11_replacementOf_60 rfl ?_
              refine mj_icmp_ne 87 dX11_replacementOf_61 (by decide) (fun c_61 => ?_) (fun c_61 => ?_)
              · refine mj_iinc (ls' := [(4, _), (5, _), (3, _), (2, _), (0, _), (1, _)]) 1 dX11_replacementOf_87 rfl (nI_s _) (Nat.le_of_ble_eq_true rfl) rfl ?_
                refine mj_goto 8 dX11_replacementOf_90 (by decide) ?_
                exact mj_ls [0, 2, 3, 4, 5] rfl (ih (k + 1) b e h (by omega) (by unfold w_rp; rw [hs]; dsimp only; rw [fe, if_neg (fun z => z.elim c_55 (fun z => c_61 z.1))]) x)
              · refine mj_iload 0 dX11_replacementOf_64 rfl ?_
                refine mj_ldc dX11_replacementOf_66 ctX11_166 ?_
                refine mj_icmp_ge 87 dX11_replacementOf_68 (by decide) (fun c_68 => ?_) (fun c_68 => ?_)
                · refine mj_iinc (ls' := [(4, _), (5, _), (3, _), (2, _), (0, _), (1, _)]) 1 dX11_replacementOf_87 rfl (nI_s _) (Nat.le_of_ble_eq_true rfl) rfl ?_
                  refine mj_goto 8 dX11_replacementOf_90 (by decide) ?_
                  exact mj_ls [0, 2, 3, 4, 5] rfl (ih (k + 1) b e h (by omega) (by unfold w_rp; rw [hs]; dsimp only; rw [fe, if_neg (fun z => z.elim c_55 (fun z => absurd z.2.1 (Int32.not_lt.mpr c_68)))]) x)
                · have hix := w_rp_ix (gbrd M) (gcrd M) d l k
                  rw [hs] at hix
                  obtain ⟨q9, hq9, hq⟩ : ∃ q, q < k ∧ b = nI q := by
                    rcases hix with ⟨_, h2⟩ | h2
                    · exfalso
                      have h2 : e = 1000000000 := h2
                      rw [h2] at c_61
                      exact c_68 (by rw [c_61]; exact Int32.le_refl _)
                    · exact h2
                  have hqn : i_nat b = q9 := by rw [hq]; exact i_nat_nI (by omega)
                  refine mj_aload_n 4 dX11_replacementOf_71 rfl ?_
                  refine mj_iload 1 dX11_replacementOf_72 rfl ?_
                  refine mj_iload_n 3 dX11_replacementOf_74 rfl ?_
                  refine mj_eq (hq) ?_
                  refine mS_cV1 x [_, _] dX11_replacementOf_75 cwX11_hasMore lkX11_203 rfl rfl rfl (cs_hasMore x (r := k) (q := q9) (by omega) (by omega)) ⟨Nat.le_of_ble_eq_true rfl, Nat.le_of_ble_eq_true rfl, Nat.le_of_ble_eq_true rfl, Nat.le_of_ble_eq_true rfl, Nat.le_of_ble_eq_true rfl⟩ (fun h x => ?_)
                  refine mj_if_eq 87 dX11_replacementOf_78 (by decide) (fun c_78 => ?_) (fun c_78 => ?_)
                  · have z3 := bI_0.mp c_78
                    refine mj_iinc (ls' := [(4, _), (5, _), (3, _), (2, _), (0, _), (1, _)]) 1 dX11_replacementOf_87 rfl (nI_s _) (Nat.le_of_ble_eq_true rfl) rfl ?_
                    refine mj_goto 8 dX11_replacementOf_90 (by decide) ?_
                    exact mj_ls [0, 2, 3, 4, 5] rfl (ih (k + 1) b e h (by omega) (by unfold w_rp; rw [hs]; dsimp only; rw [fe, if_neg (fun z => z.elim c_55 (fun z => by rw [hqn] at z; exact absurd (z3.symm.trans z.2.2) (by decide)))]) x)
                  · have z3 := bI_n0.mp c_78
                    refine mj_iload 0 dX11_replacementOf_81 rfl ?_
                    refine mj_istore_n (ls' := [(3, _), (5, _), (4, _), (2, _), (0, _), (1, _)]) dX11_replacementOf_83 (Nat.le_of_ble_eq_true rfl) rfl ?_
                    refine mj_iload 2 dX11_replacementOf_84 rfl ?_
                    refine mj_istore_n (ls' := [(2, _), (3, _), (5, _), (4, _), (0, _), (1, _)]) dX11_replacementOf_86 (Nat.le_of_ble_eq_true rfl) rfl ?_
                    refine mj_iinc (ls' := [(4, _), (2, _), (3, _), (5, _), (0, _), (1, _)]) 3 dX11_replacementOf_87 rfl (nI_s _) (Nat.le_of_ble_eq_true rfl) rfl ?_
                    refine mj_goto 8 dX11_replacementOf_90 (by decide) ?_
                    exact mj_ls [0, 2, 1, 4, 5] rfl (ih (k + 1) _ _ h (by omega) (by unfold w_rp; rw [hs]; dsimp only; rw [fe, if_pos (Or.inr ⟨c_61, Int32.not_le.mp c_68, by rw [hqn]; exact z3⟩)]) x)
  refine mj_iconst (v := (-1)) dX11_replacementOf_0 rfl ?_
  refine mj_istore_n (ls' := [(2, _), (0, _), (1, _)]) dX11_replacementOf_1 (Nat.le_of_ble_eq_true rfl) rfl ?_
  refine mj_ldc dX11_replacementOf_2 ctX11_166 ?_
  refine mj_istore_n (ls' := [(3, _), (2, _), (0, _), (1, _)]) dX11_replacementOf_4 (Nat.le_of_ble_eq_true rfl) rfl ?_
  refine mj_iconst (v := 0) dX11_replacementOf_5 rfl ?_
  refine mj_istore (ls' := [(4, _), (3, _), (2, _), (0, _), (1, _)]) dX11_replacementOf_6 (Nat.le_of_ble_eq_true rfl) rfl ?_
  exact mj_ls [0, 1, 2, 3, 4] rfl (loop nr 0 (-1) 1000000000 h (by omega) rfl x)
set_option maxRecDepth 100000 in
set_option maxHeartbeats 4000000 in
theorem cs_replacement_no {K : KX} {n : Nat} {h : MH} {h0 : MH} {m : Nat} {M : MS} (x : Ms h0 m M h) {i : Int32} (hb : b_in i 0 (gbrd M 1 - 1) = false) : Con K mX11_replacement [.ref m, .int i] 0 0 n h (RetP (some (.int (0))) n (Ms h0 m (sthr M 1))) := by
  refine Con.of (by decide +kernel) (Nat.le_of_ble_eq_true rfl) ?_
  refine mj_aload_n 0 dX11_replacement_0 rfl ?_
  refine mj_iconst (v := 0) dX11_replacement_1 rfl ?_
  refine mS_pthr dX11_replacement_2 fgX11_61 x (fun h x => ?_)
  refine mj_aload_n 0 dX11_replacement_5 rfl ?_
  refine mj_iload_n 1 dX11_replacement_6 rfl ?_
  refine mS_cV1 x [_] dX11_replacement_7 cwX11_isDriver lkX11_87 rfl rfl rfl (cs_isDriver x) ⟨Nat.le_of_ble_eq_true rfl, Nat.le_of_ble_eq_true rfl, Nat.le_of_ble_eq_true rfl, Nat.le_of_ble_eq_true rfl, Nat.le_of_ble_eq_true rfl⟩ (fun h x => ?_)
  refine mj_if_eq 21 dX11_replacement_10 (by decide) (fun c_10 => ?_) (fun c_10 => ?_)
  · refine mj_aload_n 0 dX11_replacement_21 rfl ?_
    refine mj_iconst (v := 1) dX11_replacement_22 rfl ?_
    refine mS_cV1 x [_] dX11_replacement_23 cwX11_fail lkX11_79 rfl rfl rfl (cs_fail x (v := 1)) ⟨Nat.le_of_ble_eq_true rfl, Nat.le_of_ble_eq_true rfl, Nat.le_of_ble_eq_true rfl, Nat.le_of_ble_eq_true rfl, Nat.le_of_ble_eq_true rfl⟩ (fun h x => ?_)
    exact mj_iret dX11_replacement_26 rfl (Nat.le_of_ble_eq_true rfl) (Nat.le_of_ble_eq_true rfl) ⟨rfl, rfl, (by rw [sthr_ss] at x; exact x)⟩
  · exact absurd ((bI_n0.mp c_10).symm.trans hb) (by decide)
set_option maxRecDepth 100000 in
set_option maxHeartbeats 4000000 in
theorem cs_replacement {K : KX} {n : Nat} {h : MH} {h0 : MH} {m : Nat} {M : MS} (x : Ms h0 m M h) {d : Nat} (hd : d < 8) (hb : b_in (nI d) 0 (gbrd M 1 - 1) = true) {nr : Nat} (hnr : gbrd M 2 = nI nr) (h20 : nr ≤ 20) {l : List Int32} (hg : Rok (gbrd M) d l) : Con K mX11_replacement [.ref m, .int (nI d)] 0 0 n h (RetP (some (.int ((w_rp (gbrd M) (gcrd M) d l nr).1))) n (Ms h0 m (sthr M 0))) := by
  refine Con.of (by decide +kernel) (Nat.le_of_ble_eq_true rfl) ?_
  refine mj_aload_n 0 dX11_replacement_0 rfl ?_
  refine mj_iconst (v := 0) dX11_replacement_1 rfl ?_
  refine mS_pthr dX11_replacement_2 fgX11_61 x (fun h x => ?_)
  refine mj_aload_n 0 dX11_replacement_5 rfl ?_
  refine mj_iload_n 1 dX11_replacement_6 rfl ?_
  refine mS_cV1 x [_] dX11_replacement_7 cwX11_isDriver lkX11_87 rfl rfl rfl (cs_isDriver x) ⟨Nat.le_of_ble_eq_true rfl, Nat.le_of_ble_eq_true rfl, Nat.le_of_ble_eq_true rfl, Nat.le_of_ble_eq_true rfl, Nat.le_of_ble_eq_true rfl⟩ (fun h x => ?_)
  refine mj_if_eq 21 dX11_replacement_10 (by decide) (fun c_10 => ?_) (fun c_10 => ?_)
  · exact absurd ((bI_0.mp c_10).symm.trans hb) (by decide)
  · refine mj_aload_n 0 dX11_replacement_13 rfl ?_
    refine mj_iload_n 1 dX11_replacement_14 rfl ?_
    refine mS_cV1 x [_] dX11_replacement_15 cwX11_replacementOf lkX11_248 rfl rfl rfl (cs_replacementOf x hd hnr h20 hg) ⟨Nat.le_of_ble_eq_true rfl, Nat.le_of_ble_eq_true rfl, Nat.le_of_ble_eq_true rfl, Nat.le_of_ble_eq_true rfl, Nat.le_of_ble_eq_true rfl⟩ (fun h x => ?_)
    refine mj_goto 26 dX11_replacement_18 (by decide) ?_
    exact mj_iret dX11_replacement_26 rfl (Nat.le_of_ble_eq_true rfl) (Nat.le_of_ble_eq_true rfl) ⟨rfl, rfl, x⟩
/-- the driver's stops as the board has them -/
def rl (g : Nat → Int32) (d : Nat) : List Int32 := rowL (gs g d) (i_nat (gd g d 9))
def w_repl (g : Nat → Int32) (c : Nat → Int64) (d nr : Nat) : Int32 := (w_rp g c d (rl g d) nr).1
def w_fill (c : Nat → Int64) (d nr : Nat) : Nat → (Nat → Int32) → Nat × (Nat → Int32)
  | 0, g => (0, g)
  | f + 1, g => if w_repl g c d nr = -1 then (0, g) else ((w_fill c d nr f (w_joinG g (i_nat (w_repl g c d nr)) d (rl g d))).1 + 1, (w_fill c d nr f (w_joinG g (i_nat (w_repl g c d nr)) d (rl g d))).2)
/-- the filling ends within f turns, every driver's row a row on the way -/
def FillT (c : Nat → Int64) (d nr : Nat) : Nat → (Nat → Int32) → Prop
  | 0, g => Rok g d (rl g d) ∧ g 2 = nI nr ∧ w_repl g c d nr = -1
  | f + 1, g => Rok g d (rl g d) ∧ g 2 = nI nr ∧ (w_repl g c d nr = -1 ∨ ((rl g d).length ≤ 38 ∧ FillT c d nr f (w_joinG g (i_nat (w_repl g c d nr)) d (rl g d))))
theorem w_repl_lt {g : Nat → Int32} {c : Nat → Int64} {d nr : Nat} (hn : nr ≤ 20) (h : ¬ w_repl g c d nr = -1) : ∃ r, r < nr ∧ w_repl g c d nr = nI r ∧ i_nat (w_repl g c d nr) = r := by
  rcases w_rp_ix g c d (rl g d) nr with ⟨q, _⟩ | ⟨r, hr, q⟩
  · exact absurd q h
  · have e : w_repl g c d nr = nI r := q
    exact ⟨r, hr, e, by rw [e, i_nat_nI (by omega)]⟩
set_option maxRecDepth 100000 in
set_option maxHeartbeats 4000000 in
theorem cs_fill_no {K : KX} {n : Nat} {h : MH} {h0 : MH} {m : Nat} {M : MS} (x : Ms h0 m M h) {i : Int32} (hb : b_in i 0 (gbrd M 1 - 1) = false) : Con K mX11_fill [.ref m, .int i] 0 0 n h (RetP (some (.int (0))) n (Ms h0 m (sthr M 1))) := by
  refine Con.of (by decide +kernel) (Nat.le_of_ble_eq_true rfl) ?_
  refine mj_aload_n 0 dX11_fill_0 rfl ?_
  refine mj_iconst (v := 0) dX11_fill_1 rfl ?_
  refine mS_pthr dX11_fill_2 fgX11_61 x (fun h x => ?_)
  refine mj_aload_n 0 dX11_fill_5 rfl ?_
  refine mj_iload_n 1 dX11_fill_6 rfl ?_
  refine mS_cV1 x [_] dX11_fill_7 cwX11_isDriver lkX11_87 rfl rfl rfl (cs_isDriver x) ⟨Nat.le_of_ble_eq_true rfl, Nat.le_of_ble_eq_true rfl, Nat.le_of_ble_eq_true rfl, Nat.le_of_ble_eq_true rfl, Nat.le_of_ble_eq_true rfl⟩ (fun h x => ?_)
  refine mj_if_ne 19 dX11_fill_10 (by decide) (fun c_10 => ?_) (fun c_10 => ?_)
  · exact absurd ((bI_n0.mp c_10).symm.trans hb) (by decide)
  · refine mj_aload_n 0 dX11_fill_13 rfl ?_
    refine mj_iconst (v := 1) dX11_fill_14 rfl ?_
    refine mS_cV1 x [_] dX11_fill_15 cwX11_fail lkX11_79 rfl rfl rfl (cs_fail x (v := 1)) ⟨Nat.le_of_ble_eq_true rfl, Nat.le_of_ble_eq_true rfl, Nat.le_of_ble_eq_true rfl, Nat.le_of_ble_eq_true rfl, Nat.le_of_ble_eq_true rfl⟩ (fun h x => ?_)
    exact mj_iret dX11_fill_18 rfl (Nat.le_of_ble_eq_true rfl) (Nat.le_of_ble_eq_true rfl) ⟨rfl, rfl, (by rw [sthr_ss] at x; exact x)⟩
theorem FillT.one {c : Nat → Int64} {d nr : Nat} : ∀ {f : Nat} {g : Nat → Int32}, FillT c d nr f g → Rok g d (rl g d)
  | 0, _, h => h.1
  | _ + 1, _, h => h.1
theorem FillT.two {c : Nat → Int64} {d nr : Nat} : ∀ {f : Nat} {g : Nat → Int32}, FillT c d nr f g → g 2 = nI nr
  | 0, _, h => h.2.1
  | _ + 1, _, h => h.2.1
set_option maxRecDepth 100000 in
set_option maxHeartbeats 4000000 in
theorem cs_fill {K : KX} {n : Nat} {h : MH} {h0 : MH} {m : Nat} {M : MS} (x : Ms h0 m M h) {d : Nat} (hd : d < 8) (hb : b_in (nI d) 0 (gbrd M 1 - 1) = true) {nr : Nat} (h20 : nr ≤ 20) {ff : Nat} (hff : ff ≤ 20) (hf : FillT (gcrd M) d nr ff (gbrd M)) : Con K mX11_fill [.ref m, .int (nI d)] 0 0 n h (RetP (some (.int (nI (w_fill (gcrd M) d nr ff (gbrd M)).1))) n (Ms h0 m (sbrd (sthr M 0) (w_fill (gcrd M) d nr ff (gbrd M)).2))) := by
  refine Con.of (by decide +kernel) (Nat.le_of_ble_eq_true rfl) ?_
  have loop : ∀ (f : Nat) (g : Nat → Int32) (t : Nat) (h1 : MH), t + f ≤ 20 → FillT (gcrd M) d nr f g → Ms h0 m (sbrd (sthr M 0) g) h1 → GG (K, mX11_fill, 0, 0, RetP (some (.int (nI (t + (w_fill (gcrd M) d nr f g).1)))) n (Ms h0 m (sbrd (sthr M 0) (w_fill (gcrd M) d nr f g).2))) 0 0 27 [(3, .int (w_repl g (gcrd M) d nr)), (2, .int (nI t)), (0, .ref m), (1, .int (nI d))] [] n h1 := by
    intro f
    induction f with
    | zero =>
      intro g t h1 ht hf x
      have hz : w_repl g (gcrd M) d nr = -1 := hf.2.2
      refine mj_iload_n 0 dX11_fill_27 rfl ?_
      refine mj_iconst (v := (-1)) dX11_fill_28 rfl ?_
      refine mj_icmp_eq 52 dX11_fill_29 (by decide) (fun c_29 => ?_) (fun c_29 => ?_)
      · refine mj_iload_n 1 dX11_fill_52 rfl ?_
        exact mj_iret dX11_fill_53 rfl (Nat.le_of_ble_eq_true rfl) (Nat.le_of_ble_eq_true rfl) ⟨(by rfl), rfl, x⟩
      · exact absurd hz c_29
    | succ f ih =>
      intro g t h1 ht hf x
      by_cases hz : w_repl g (gcrd M) d nr = -1
      · refine mj_iload_n 0 dX11_fill_27 rfl ?_
        refine mj_iconst (v := (-1)) dX11_fill_28 rfl ?_
        refine mj_icmp_eq 52 dX11_fill_29 (by decide) (fun c_29 => ?_) (fun c_29 => ?_)
        · refine mj_iload_n 1 dX11_fill_52 rfl ?_
          exact mj_iret dX11_fill_53 rfl (Nat.le_of_ble_eq_true rfl) (Nat.le_of_ble_eq_true rfl) ⟨(by unfold w_fill; rw [if_pos hz]; rfl), rfl, (by unfold w_fill; rw [if_pos hz]; exact x)⟩
        · exact absurd hz c_29
      · obtain ⟨hr0, h2, hT⟩ := hf
        obtain ⟨hl38, hT⟩ := hT.resolve_left hz
        obtain ⟨r, hr, hre, hrn⟩ := w_repl_lt h20 hz
        rw [hrn] at hT
        refine mj_iload_n 0 dX11_fill_27 rfl ?_
        refine mj_iconst (v := (-1)) dX11_fill_28 rfl ?_
        refine mj_icmp_eq 52 dX11_fill_29 (by decide) (fun c_29 => ?_) (fun c_29 => ?_)
        · exact absurd c_29 hz
        · refine mj_aload_n 2 dX11_fill_32 rfl ?_
          refine mj_iload_n 0 dX11_fill_33 rfl ?_
          refine mj_eq (hre) ?_
          refine mj_iload_n 3 dX11_fill_34 rfl ?_
          refine mS_cV1 x [.int (nI r), _] dX11_fill_35 cwX11_join lkX11_194 rfl rfl rfl (cs_join x (r := r) (by omega) hd hr0 hl38) ⟨Nat.le_of_ble_eq_true rfl, Nat.le_of_ble_eq_true rfl, Nat.le_of_ble_eq_true rfl, Nat.le_of_ble_eq_true rfl, Nat.le_of_ble_eq_true rfl⟩ (fun h x => ?_)
          rw [sbrd_gbrd, sbrd_ss] at x
          refine mj_istore (ls' := [(4, _), (3, _), (2, _), (0, _), (1, _)]) dX11_fill_38 (Nat.le_of_ble_eq_true rfl) rfl ?_
          refine mj_iinc (ls' := [(2, _), (4, _), (3, _), (0, _), (1, _)]) 2 dX11_fill_40 rfl (nI_s _) (Nat.le_of_ble_eq_true rfl) rfl ?_
          refine mj_aload_n 3 dX11_fill_43 rfl ?_
          refine mj_iload_n 4 dX11_fill_44 rfl ?_
          refine mS_cV1 x [_] dX11_fill_45 cwX11_replacementOf lkX11_248 rfl rfl rfl (cs_replacementOf x (l := rl (w_joinG g r d (rl g d)) d) hd (FillT.two hT) h20 (FillT.one hT)) ⟨Nat.le_of_ble_eq_true rfl, Nat.le_of_ble_eq_true rfl, Nat.le_of_ble_eq_true rfl, Nat.le_of_ble_eq_true rfl, Nat.le_of_ble_eq_true rfl⟩ (fun h x => ?_)
          refine mj_istore_n (ls' := [(3, _), (2, _), (4, _), (0, _), (1, _)]) dX11_fill_48 (Nat.le_of_ble_eq_true rfl) rfl ?_
          refine mj_goto 27 dX11_fill_49 (by decide) ?_
          refine mj_ls [0, 1, 3, 4] rfl ?_
          have q := ih (w_joinG g r d (rl g d)) (t + 1) h (by omega) hT x
          rw [show w_fill (gcrd M) d nr (f + 1) g = ((w_fill (gcrd M) d nr f (w_joinG g r d (rl g d))).1 + 1, (w_fill (gcrd M) d nr f (w_joinG g r d (rl g d))).2) by
            conv => lhs; unfold w_fill
            rw [if_neg hz, hrn]]
          dsimp only
          rw [show t + ((w_fill (gcrd M) d nr f (w_joinG g r d (rl g d))).1 + 1) = t + 1 + (w_fill (gcrd M) d nr f (w_joinG g r d (rl g d))).1 by omega]
          exact q
  refine mj_aload_n 0 dX11_fill_0 rfl ?_
  refine mj_iconst (v := 0) dX11_fill_1 rfl ?_
  refine mS_pthr dX11_fill_2 fgX11_61 x (fun h x => ?_)
  refine mj_aload_n 0 dX11_fill_5 rfl ?_
  refine mj_iload_n 1 dX11_fill_6 rfl ?_
  refine mS_cV1 x [_] dX11_fill_7 cwX11_isDriver lkX11_87 rfl rfl rfl (cs_isDriver x) ⟨Nat.le_of_ble_eq_true rfl, Nat.le_of_ble_eq_true rfl, Nat.le_of_ble_eq_true rfl, Nat.le_of_ble_eq_true rfl, Nat.le_of_ble_eq_true rfl⟩ (fun h x => ?_)
  refine mj_if_ne 19 dX11_fill_10 (by decide) (fun c_10 => ?_) (fun c_10 => ?_)
  · refine mj_iconst (v := 0) dX11_fill_19 rfl ?_
    refine mj_istore_n (ls' := [(2, _), (0, _), (1, _)]) dX11_fill_20 (Nat.le_of_ble_eq_true rfl) rfl ?_
    refine mj_aload_n 1 dX11_fill_21 rfl ?_
    refine mj_iload_n 2 dX11_fill_22 rfl ?_
    refine mS_cV1 x [_] dX11_fill_23 cwX11_replacementOf lkX11_248 rfl rfl rfl (cs_replacementOf x (l := rl (gbrd M) d) hd (FillT.two hf) h20 (FillT.one hf)) ⟨Nat.le_of_ble_eq_true rfl, Nat.le_of_ble_eq_true rfl, Nat.le_of_ble_eq_true rfl, Nat.le_of_ble_eq_true rfl, Nat.le_of_ble_eq_true rfl⟩ (fun h x => ?_)
    refine mj_istore_n (ls' := [(3, _), (2, _), (0, _), (1, _)]) dX11_fill_26 (Nat.le_of_ble_eq_true rfl) rfl ?_
    refine mj_ls [0, 1, 2, 3] rfl ?_
    have q := loop ff (gbrd M) 0 h (by omega) hf (by rw [show sbrd (sthr M 0) (gbrd M) = sthr M 0 from sbrd_id (sthr M 0)]; exact x)
    rw [Nat.zero_add] at q
    exact q
  · exact absurd ((bI_0.mp c_10).symm.trans hb) (by decide)
