set_option maxRecDepth 100000 in
set_option maxHeartbeats 4000000 in
theorem cn_X11_isOpen {K : KX} {n : Nat} {h : MH} {h0 : MH} {m : Nat} {M : MS} (x : Md h0 m M h) {d : Nat} (hd : d < 8) : Con K mX11_isOpen [.ref m, .int (nI d)] 0 0 n h (RetP (some (.int (bI (decide (dF M d 8 = 0))))) n (Md h0 m (M))) := by
  refine Con.of (by decide +kernel) (Nat.le_of_ble_eq_true rfl) ?_
  refine mj_aload_n 0 dX11_isOpen_0 rfl ?_
  refine mj_iload_n 1 dX11_isOpen_1 rfl ?_
  refine mj_bipush (v := (8)) dX11_isOpen_2 rfl ?_
  refine mj_cV1 [_, _] (RX11, TX11, 32) dX11_isOpen_4 cwX11_driver lkX11_68 x.ko rfl rfl rfl rfl (cn_X11_driver x (d := d) (f := 8) hd (by decide)) ⟨Nat.le_of_ble_eq_true rfl, Nat.le_of_ble_eq_true rfl, Nat.le_of_ble_eq_true rfl, Nat.le_of_ble_eq_true rfl, Nat.le_of_ble_eq_true rfl⟩ (fun h x => ?_)
  refine mj_if_ne 14 dX11_isOpen_7 (by decide) (fun c_7 => ?_) (fun c_7 => ?_)
  · refine mj_iconst (v := 0) dX11_isOpen_14 rfl ?_
    exact mj_zret dX11_isOpen_15 rfl (by first | exact Or.inl rfl | exact Or.inr rfl) (Nat.le_of_ble_eq_true rfl) (Nat.le_of_ble_eq_true rfl) ⟨(by simp [bI, *]), rfl, x⟩
  · refine mj_iconst (v := 1) dX11_isOpen_10 rfl ?_
    refine mj_goto 15 dX11_isOpen_11 (by decide) ?_
    exact mj_zret dX11_isOpen_15 rfl (by first | exact Or.inl rfl | exact Or.inr rfl) (Nat.le_of_ble_eq_true rfl) (Nat.le_of_ble_eq_true rfl) ⟨(by simp [bI, *]), rfl, x⟩
set_option maxRecDepth 100000 in
set_option maxHeartbeats 4000000 in
theorem cn_X11_isIn {K : KX} {n : Nat} {h : MH} {h0 : MH} {m : Nat} {M : MS} (x : Md h0 m M h) {r : Nat} {i : Int32} (hr : r < 20) : Con K mX11_isIn [.ref m, .int (nI r), .int i] 0 0 n h (RetP (some (.int (bI (decide (rF M r 7 = i))))) n (Md h0 m (M))) := by
  refine Con.of (by decide +kernel) (Nat.le_of_ble_eq_true rfl) ?_
  refine mj_aload_n 0 dX11_isIn_0 rfl ?_
  refine mj_iload_n 1 dX11_isIn_1 rfl ?_
  refine mj_bipush (v := (7)) dX11_isIn_2 rfl ?_
  refine mj_cV1 [_, _] (RX11, TX11, 32) dX11_isIn_4 cwX11_rider lkX11_72 x.ko rfl rfl rfl rfl (cn_X11_rider x (r := r) (f := 7) hr (by decide)) ⟨Nat.le_of_ble_eq_true rfl, Nat.le_of_ble_eq_true rfl, Nat.le_of_ble_eq_true rfl, Nat.le_of_ble_eq_true rfl, Nat.le_of_ble_eq_true rfl⟩ (fun h x => ?_)
  refine mj_iload_n 2 dX11_isIn_7 rfl ?_
  refine mj_icmp_ne 15 dX11_isIn_8 (by decide) (fun c_8 => ?_) (fun c_8 => ?_)
  · refine mj_iconst (v := 0) dX11_isIn_15 rfl ?_
    exact mj_zret dX11_isIn_16 rfl (by first | exact Or.inl rfl | exact Or.inr rfl) (Nat.le_of_ble_eq_true rfl) (Nat.le_of_ble_eq_true rfl) ⟨(by simp [bI, *]), rfl, x⟩
  · refine mj_iconst (v := 1) dX11_isIn_11 rfl ?_
    refine mj_goto 16 dX11_isIn_12 (by decide) ?_
    exact mj_zret dX11_isIn_16 rfl (by first | exact Or.inl rfl | exact Or.inr rfl) (Nat.le_of_ble_eq_true rfl) (Nat.le_of_ble_eq_true rfl) ⟨(by simp [bI, *]), rfl, x⟩
set_option maxRecDepth 100000 in
set_option maxHeartbeats 4000000 in
theorem cn_X11_directLength {K : KX} {n : Nat} {h : MH} {h0 : MH} {m : Nat} {M : MS} (x : Md h0 m M h) {d : Nat} (hd : d < 8) : Con K mX11_directLength [.ref m, .int (nI d)] 0 0 n h (RetP (some (.int (i_dist (dF M d 0) (dF M d 1) (dF M d 2) (dF M d 3)))) n (Md h0 m (M))) := by
  refine Con.of (by decide +kernel) (Nat.le_of_ble_eq_true rfl) ?_
  refine mj_aload_n 0 dX11_directLength_0 rfl ?_
  refine mj_iload_n 1 dX11_directLength_1 rfl ?_
  refine mj_iconst (v := 0) dX11_directLength_2 rfl ?_
  refine mj_cV1 [_, _] (RX11, TX11, 32) dX11_directLength_3 cwX11_driver lkX11_68 x.ko rfl rfl rfl rfl (cn_X11_driver x (d := d) (f := 0) hd (by decide)) ⟨Nat.le_of_ble_eq_true rfl, Nat.le_of_ble_eq_true rfl, Nat.le_of_ble_eq_true rfl, Nat.le_of_ble_eq_true rfl, Nat.le_of_ble_eq_true rfl⟩ (fun h x => ?_)
  refine mj_aload_n 0 dX11_directLength_6 rfl ?_
  refine mj_iload_n 1 dX11_directLength_7 rfl ?_
  refine mj_iconst (v := 1) dX11_directLength_8 rfl ?_
  refine mj_cV1 [_, _] (RX11, TX11, 32) dX11_directLength_9 cwX11_driver lkX11_68 x.ko rfl rfl rfl rfl (cn_X11_driver x (d := d) (f := 1) hd (by decide)) ⟨Nat.le_of_ble_eq_true rfl, Nat.le_of_ble_eq_true rfl, Nat.le_of_ble_eq_true rfl, Nat.le_of_ble_eq_true rfl, Nat.le_of_ble_eq_true rfl⟩ (fun h x => ?_)
  refine mj_aload_n 0 dX11_directLength_12 rfl ?_
  refine mj_iload_n 1 dX11_directLength_13 rfl ?_
  refine mj_iconst (v := 2) dX11_directLength_14 rfl ?_
  refine mj_cV1 [_, _] (RX11, TX11, 32) dX11_directLength_15 cwX11_driver lkX11_68 x.ko rfl rfl rfl rfl (cn_X11_driver x (d := d) (f := 2) hd (by decide)) ⟨Nat.le_of_ble_eq_true rfl, Nat.le_of_ble_eq_true rfl, Nat.le_of_ble_eq_true rfl, Nat.le_of_ble_eq_true rfl, Nat.le_of_ble_eq_true rfl⟩ (fun h x => ?_)
  refine mj_aload_n 0 dX11_directLength_18 rfl ?_
  refine mj_iload_n 1 dX11_directLength_19 rfl ?_
  refine mj_iconst (v := 3) dX11_directLength_20 rfl ?_
  refine mj_cV1 [_, _] (RX11, TX11, 32) dX11_directLength_21 cwX11_driver lkX11_68 x.ko rfl rfl rfl rfl (cn_X11_driver x (d := d) (f := 3) hd (by decide)) ⟨Nat.le_of_ble_eq_true rfl, Nat.le_of_ble_eq_true rfl, Nat.le_of_ble_eq_true rfl, Nat.le_of_ble_eq_true rfl, Nat.le_of_ble_eq_true rfl⟩ (fun h x => ?_)
  refine mj_cS1 [_, _, _, _] dX11_directLength_24 cwX11_distance lkX11_127 rfl (cn_X11_distance _ _ _ _) ⟨Nat.le_of_ble_eq_true rfl, Nat.le_of_ble_eq_true rfl, Nat.le_of_ble_eq_true rfl, Nat.le_of_ble_eq_true rfl, Nat.le_of_ble_eq_true rfl⟩ (fun h' e' => ?_)
  subst h'
  exact mj_iret dX11_directLength_27 rfl (Nat.le_of_ble_eq_true rfl) (Nat.le_of_ble_eq_true rfl) ⟨rfl, rfl, x⟩
set_option maxRecDepth 100000 in
set_option maxHeartbeats 4000000 in
theorem cn_X11_takesPart {K : KX} {n : Nat} {h : MH} {h0 : MH} {m : Nat} {M : MS} (x : Md h0 m M h) {r : Nat} (hr : r < 20) : Con K mX11_takesPart [.ref m, .int (nI r)] 0 0 n h (RetP (some (.int (bI (decide (rF M r 6 = 0) || decide (rF M r 6 = 1))))) n (Md h0 m (M))) := by
  refine Con.of (by decide +kernel) (Nat.le_of_ble_eq_true rfl) ?_
  refine mj_aload_n 0 dX11_takesPart_0 rfl ?_
  refine mj_iload_n 1 dX11_takesPart_1 rfl ?_
  refine mj_bipush (v := (6)) dX11_takesPart_2 rfl ?_
  refine mj_cV1 [_, _] (RX11, TX11, 32) dX11_takesPart_4 cwX11_rider lkX11_72 x.ko rfl rfl rfl rfl (cn_X11_rider x (r := r) (f := 6) hr (by decide)) ⟨Nat.le_of_ble_eq_true rfl, Nat.le_of_ble_eq_true rfl, Nat.le_of_ble_eq_true rfl, Nat.le_of_ble_eq_true rfl, Nat.le_of_ble_eq_true rfl⟩ (fun h x => ?_)
  refine mj_if_eq 21 dX11_takesPart_7 (by decide) (fun c_7 => ?_) (fun c_7 => ?_)
  · refine mj_iconst (v := 1) dX11_takesPart_21 rfl ?_
    refine mj_goto 26 dX11_takesPart_22 (by decide) ?_
    exact mj_zret dX11_takesPart_26 rfl (by first | exact Or.inl rfl | exact Or.inr rfl) (Nat.le_of_ble_eq_true rfl) (Nat.le_of_ble_eq_true rfl) ⟨(by simp [bI, *]), rfl, x⟩
  · refine mj_aload_n 0 dX11_takesPart_10 rfl ?_
    refine mj_iload_n 1 dX11_takesPart_11 rfl ?_
    refine mj_bipush (v := (6)) dX11_takesPart_12 rfl ?_
    refine mj_cV1 [_, _] (RX11, TX11, 32) dX11_takesPart_14 cwX11_rider lkX11_72 x.ko rfl rfl rfl rfl (cn_X11_rider x (r := r) (f := 6) hr (by decide)) ⟨Nat.le_of_ble_eq_true rfl, Nat.le_of_ble_eq_true rfl, Nat.le_of_ble_eq_true rfl, Nat.le_of_ble_eq_true rfl, Nat.le_of_ble_eq_true rfl⟩ (fun h x => ?_)
    refine mj_iconst (v := 1) dX11_takesPart_17 rfl ?_
    refine mj_icmp_ne 25 dX11_takesPart_18 (by decide) (fun c_18 => ?_) (fun c_18 => ?_)
    · refine mj_iconst (v := 0) dX11_takesPart_25 rfl ?_
      exact mj_zret dX11_takesPart_26 rfl (by first | exact Or.inl rfl | exact Or.inr rfl) (Nat.le_of_ble_eq_true rfl) (Nat.le_of_ble_eq_true rfl) ⟨(by simp [bI, *]), rfl, x⟩
    · refine mj_iconst (v := 1) dX11_takesPart_21 rfl ?_
      refine mj_goto 26 dX11_takesPart_22 (by decide) ?_
      exact mj_zret dX11_takesPart_26 rfl (by first | exact Or.inl rfl | exact Or.inr rfl) (Nat.le_of_ble_eq_true rfl) (Nat.le_of_ble_eq_true rfl) ⟨(by simp [bI, *]), rfl, x⟩
set_option maxRecDepth 100000 in
set_option maxHeartbeats 4000000 in
theorem cn_X11_solo {K : KX} {n : Nat} {h : MH} {h0 : MH} {m : Nat} {M : MS} (x : Md h0 m M h) {r d : Nat} (hr : r < 20) (hd : d < 8) : Con K mX11_solo [.ref m, .int (nI r), .int (nI d)] 0 0 n h (RetP (some (.int (gsol M (8 * r + d)))) n (Md h0 m (M))) := by
  refine Con.of (by decide +kernel) (Nat.le_of_ble_eq_true rfl) ?_
  refine mj_aload_n 0 dX11_solo_0 rfl ?_
  refine mj_getf dX11_solo_1 fgX11_39 x.ko rfl ?_
  refine mj_bipush (v := (8)) dX11_solo_4 rfl ?_
  refine mj_iload_n 1 dX11_solo_6 rfl ?_
  refine mj_imul dX11_solo_7 ?_
  refine mj_iload_n 2 dX11_solo_8 rfl ?_
  refine mj_iadd dX11_solo_9 ?_
  refine mj_iald x.ksol (ix_sol (by omega) (by omega)) (by first | assumption | omega | decide) dX11_solo_10 ?_
  exact mj_iret dX11_solo_11 rfl (Nat.le_of_ble_eq_true rfl) (Nat.le_of_ble_eq_true rfl) ⟨rfl, rfl, x⟩
set_option maxRecDepth 100000 in
set_option maxHeartbeats 4000000 in
theorem cn_X11_doFit {K : KX} {n : Nat} {h : MH} {h0 : MH} {m : Nat} {M : MS} (x : Md h0 m M h) {r d : Nat} (hr : r < 20) (hd : d < 8) : Con K mX11_doFit [.ref m, .int (nI r), .int (nI d)] 0 0 n h (RetP (some (.int (bI (decide (gsol M (8 * r + d) < 1000000000))))) n (Md h0 m (M))) := by
  refine Con.of (by decide +kernel) (Nat.le_of_ble_eq_true rfl) ?_
  refine mj_aload_n 0 dX11_doFit_0 rfl ?_
  refine mj_iload_n 1 dX11_doFit_1 rfl ?_
  refine mj_iload_n 2 dX11_doFit_2 rfl ?_
  refine mj_cV1 [_, _] (RX11, TX11, 32) dX11_doFit_3 cwX11_solo lkX11_200 x.ko rfl rfl rfl rfl (cn_X11_solo x hr hd) ⟨Nat.le_of_ble_eq_true rfl, Nat.le_of_ble_eq_true rfl, Nat.le_of_ble_eq_true rfl, Nat.le_of_ble_eq_true rfl, Nat.le_of_ble_eq_true rfl⟩ (fun h x => ?_)
  refine mj_ldc dX11_doFit_6 ctX11_166 ?_
  refine mj_icmp_ge 15 dX11_doFit_8 (by decide) (fun c_8 => ?_) (fun c_8 => ?_)
  · have z : ¬ gsol M (8 * r + d) < 1000000000 := Int32.not_lt.mpr c_8
    refine mj_iconst (v := 0) dX11_doFit_15 rfl ?_
    exact mj_zret dX11_doFit_16 rfl (by first | exact Or.inl rfl | exact Or.inr rfl) (Nat.le_of_ble_eq_true rfl) (Nat.le_of_ble_eq_true rfl) ⟨(by simp [bI, z]), rfl, x⟩
  · have z : gsol M (8 * r + d) < 1000000000 := Int32.not_le.mp c_8
    refine mj_iconst (v := 1) dX11_doFit_11 rfl ?_
    refine mj_goto 16 dX11_doFit_12 (by decide) ?_
    exact mj_zret dX11_doFit_16 rfl (by first | exact Or.inl rfl | exact Or.inr rfl) (Nat.le_of_ble_eq_true rfl) (Nat.le_of_ble_eq_true rfl) ⟨(by simp [bI, z]), rfl, x⟩
def q_more (M : MS) (r q : Nat) : Bool := if gcrd M (8 + r) = gcrd M (8 + q) then decide (r < q) else decide (gcrd M (8 + q) < gcrd M (8 + r))
def q_lr (M : MS) (d r q : Nat) : Bool := if gsol M (8 * r + d) = gsol M (8 * q + d) then q_more M r q else decide (gsol M (8 * r + d) < gsol M (8 * q + d))
def q_price (M : MS) (r d : Nat) : Int32 := gsol M (8 * r + d) * dF M d 7
def q_ld (M : MS) (r d e : Nat) : Bool := if q_price M r d = q_price M r e then decide (d < e) else decide (q_price M r d < q_price M r e)
set_option maxRecDepth 100000 in
set_option maxHeartbeats 4000000 in
theorem cn_X11_hasMore {K : KX} {n : Nat} {h : MH} {h0 : MH} {m : Nat} {M : MS} (x : Md h0 m M h) {r q : Nat} (hr : r < 20) (hq : q < 20) : Con K mX11_hasMore [.ref m, .int (nI r), .int (nI q)] 0 0 n h (RetP (some (.int (bI (q_more M r q)))) n (Md h0 m (M))) := by
  refine Con.of (by decide +kernel) (Nat.le_of_ble_eq_true rfl) ?_
  refine mj_aload_n 0 dX11_hasMore_0 rfl ?_
  refine mj_getf dX11_hasMore_1 fgX11_19 x.ko rfl ?_
  refine mj_bipush (v := (8)) dX11_hasMore_4 rfl ?_
  refine mj_iload_n 1 dX11_hasMore_6 rfl ?_
  refine mj_iadd dX11_hasMore_7 ?_
  refine mj_lald x.kcrd (ix_crd (by omega)) (by first | assumption | omega | decide) dX11_hasMore_8 ?_
  refine mj_lstore_n (ls' := [(3, _), (0, _), (1, _), (2, _)]) dX11_hasMore_9 (Nat.le_of_ble_eq_true rfl) rfl ?_
  refine mj_aload_n 1 dX11_hasMore_10 rfl ?_
  refine mj_getf dX11_hasMore_11 fgX11_19 x.ko rfl ?_
  refine mj_bipush (v := (8)) dX11_hasMore_14 rfl ?_
  refine mj_iload_n 3 dX11_hasMore_16 rfl ?_
  refine mj_iadd dX11_hasMore_17 ?_
  refine mj_lald x.kcrd (ix_crd (by omega)) (by first | assumption | omega | decide) dX11_hasMore_18 ?_
  refine mj_lstore (ls' := [(5, _), (3, _), (0, _), (1, _), (2, _)]) dX11_hasMore_19 (Nat.le_of_ble_eq_true rfl) rfl ?_
  refine mj_lload_n 1 dX11_hasMore_21 rfl ?_
  refine mj_lload 0 dX11_hasMore_22 rfl ?_
  refine mj_lcmp dX11_hasMore_24 ?_
  refine mj_if_eq 43 dX11_hasMore_25 (by decide) (fun c_25 => ?_) (fun c_25 => ?_)
  · have z1 := lgc_eq.mp c_25
    refine mj_iload_n 3 dX11_hasMore_43 rfl ?_
    refine mj_iload_n 4 dX11_hasMore_44 rfl ?_
    refine mj_icmp_ge 52 dX11_hasMore_45 (by decide) (fun c_45 => ?_) (fun c_45 => ?_)
    · have z3 : ¬ r < q := fun z => nI_ge z (by omega) c_45
      refine mj_iconst (v := 0) dX11_hasMore_52 rfl ?_
      exact mj_zret dX11_hasMore_53 rfl (by first | exact Or.inl rfl | exact Or.inr rfl) (Nat.le_of_ble_eq_true rfl) (Nat.le_of_ble_eq_true rfl) ⟨(by unfold q_more; first | (rw [if_pos z1]; simp [bI, *]; done) | (rw [if_neg z1]; simp [bI, z2]; done)), rfl, x⟩
    · have z3 : r < q := Nat.lt_of_not_le fun z => c_45 (nI_le z (by omega))
      refine mj_iconst (v := 1) dX11_hasMore_48 rfl ?_
      refine mj_goto 53 dX11_hasMore_49 (by decide) ?_
      exact mj_zret dX11_hasMore_53 rfl (by first | exact Or.inl rfl | exact Or.inr rfl) (Nat.le_of_ble_eq_true rfl) (Nat.le_of_ble_eq_true rfl) ⟨(by unfold q_more; first | (rw [if_pos z1]; simp [bI, *]; done) | (rw [if_neg z1]; simp [bI, z2]; done)), rfl, x⟩
  · have z1 : ¬ _ := fun z => c_25 (lgc_eq.mpr z)
    refine mj_lload_n 1 dX11_hasMore_28 rfl ?_
    refine mj_lload 0 dX11_hasMore_29 rfl ?_
    refine mj_lcmp dX11_hasMore_31 ?_
    refine mj_if_le 39 dX11_hasMore_32 (by decide) (fun c_32 => ?_) (fun c_32 => ?_)
    · have z2 : ¬ _ := fun z => absurd (gc_gt.mpr z) (Int32.not_lt.mpr c_32)
      refine mj_iconst (v := 0) dX11_hasMore_39 rfl ?_
      refine mj_goto 53 dX11_hasMore_40 (by decide) ?_
      exact mj_zret dX11_hasMore_53 rfl (by first | exact Or.inl rfl | exact Or.inr rfl) (Nat.le_of_ble_eq_true rfl) (Nat.le_of_ble_eq_true rfl) ⟨(by unfold q_more; first | (rw [if_pos z1]; simp [bI, *]; done) | (rw [if_neg z1]; simp [bI, z2]; done)), rfl, x⟩
    · have z2 := gc_gt.mp (Int32.not_le.mp c_32)
      refine mj_iconst (v := 1) dX11_hasMore_35 rfl ?_
      refine mj_goto 53 dX11_hasMore_36 (by decide) ?_
      exact mj_zret dX11_hasMore_53 rfl (by first | exact Or.inl rfl | exact Or.inr rfl) (Nat.le_of_ble_eq_true rfl) (Nat.le_of_ble_eq_true rfl) ⟨(by unfold q_more; first | (rw [if_pos z1]; simp [bI, *]; done) | (rw [if_neg z1]; simp [bI, z2]; done)), rfl, x⟩
set_option maxRecDepth 100000 in
set_option maxHeartbeats 4000000 in
theorem cn_X11_likesRider {K : KX} {n : Nat} {h : MH} {h0 : MH} {m : Nat} {M : MS} (x : Md h0 m M h) {d r q : Nat} (hd : d < 8) (hr : r < 20) (hq : q < 20) : Con K mX11_likesRider [.ref m, .int (nI d), .int (nI r), .int (nI q)] 0 0 n h (RetP (some (.int (bI (q_lr M d r q)))) n (Md h0 m (M))) := by
  refine Con.of (by decide +kernel) (Nat.le_of_ble_eq_true rfl) ?_
  refine mj_aload_n 0 dX11_likesRider_0 rfl ?_
  refine mj_iload_n 2 dX11_likesRider_1 rfl ?_
  refine mj_iload_n 1 dX11_likesRider_2 rfl ?_
  refine mj_cV1 [_, _] (RX11, TX11, 32) dX11_likesRider_3 cwX11_solo lkX11_200 x.ko rfl rfl rfl rfl (cn_X11_solo x hr hd) ⟨Nat.le_of_ble_eq_true rfl, Nat.le_of_ble_eq_true rfl, Nat.le_of_ble_eq_true rfl, Nat.le_of_ble_eq_true rfl, Nat.le_of_ble_eq_true rfl⟩ (fun h x => ?_)
  refine mj_aload_n 0 dX11_likesRider_6 rfl ?_
  refine mj_iload_n 3 dX11_likesRider_7 rfl ?_
  refine mj_iload_n 1 dX11_likesRider_8 rfl ?_
  refine mj_cV1 [_, _] (RX11, TX11, 32) dX11_likesRider_9 cwX11_solo lkX11_200 x.ko rfl rfl rfl rfl (cn_X11_solo x hq hd) ⟨Nat.le_of_ble_eq_true rfl, Nat.le_of_ble_eq_true rfl, Nat.le_of_ble_eq_true rfl, Nat.le_of_ble_eq_true rfl, Nat.le_of_ble_eq_true rfl⟩ (fun h x => ?_)
  refine mj_icmp_eq 36 dX11_likesRider_12 (by decide) (fun c_12 => ?_) (fun c_12 => ?_)
  · refine mj_aload_n 0 dX11_likesRider_36 rfl ?_
    refine mj_iload_n 2 dX11_likesRider_37 rfl ?_
    refine mj_iload_n 3 dX11_likesRider_38 rfl ?_
    refine mj_cV1 [_, _] (RX11, TX11, 32) dX11_likesRider_39 cwX11_hasMore lkX11_203 x.ko rfl rfl rfl rfl (cn_X11_hasMore x hr hq) ⟨Nat.le_of_ble_eq_true rfl, Nat.le_of_ble_eq_true rfl, Nat.le_of_ble_eq_true rfl, Nat.le_of_ble_eq_true rfl, Nat.le_of_ble_eq_true rfl⟩ (fun h x => ?_)
    exact mj_zret dX11_likesRider_42 rfl (by cases (q_more M r q); exact Or.inl rfl; exact Or.inr rfl) (Nat.le_of_ble_eq_true rfl) (Nat.le_of_ble_eq_true rfl) ⟨(by unfold q_lr; rw [if_pos c_12]), rfl, x⟩
  · refine mj_aload_n 0 dX11_likesRider_15 rfl ?_
    refine mj_iload_n 2 dX11_likesRider_16 rfl ?_
    refine mj_iload_n 1 dX11_likesRider_17 rfl ?_
    refine mj_cV1 [_, _] (RX11, TX11, 32) dX11_likesRider_18 cwX11_solo lkX11_200 x.ko rfl rfl rfl rfl (cn_X11_solo x hr hd) ⟨Nat.le_of_ble_eq_true rfl, Nat.le_of_ble_eq_true rfl, Nat.le_of_ble_eq_true rfl, Nat.le_of_ble_eq_true rfl, Nat.le_of_ble_eq_true rfl⟩ (fun h x => ?_)
    refine mj_aload_n 0 dX11_likesRider_21 rfl ?_
    refine mj_iload_n 3 dX11_likesRider_22 rfl ?_
    refine mj_iload_n 1 dX11_likesRider_23 rfl ?_
    refine mj_cV1 [_, _] (RX11, TX11, 32) dX11_likesRider_24 cwX11_solo lkX11_200 x.ko rfl rfl rfl rfl (cn_X11_solo x hq hd) ⟨Nat.le_of_ble_eq_true rfl, Nat.le_of_ble_eq_true rfl, Nat.le_of_ble_eq_true rfl, Nat.le_of_ble_eq_true rfl, Nat.le_of_ble_eq_true rfl⟩ (fun h x => ?_)
    refine mj_icmp_ge 34 dX11_likesRider_27 (by decide) (fun c_27 => ?_) (fun c_27 => ?_)
    · have z2 : ¬ _ := Int32.not_lt.mpr c_27
      refine mj_iconst (v := 0) dX11_likesRider_34 rfl ?_
      exact mj_zret dX11_likesRider_35 rfl (by first | exact Or.inl rfl | exact Or.inr rfl) (Nat.le_of_ble_eq_true rfl) (Nat.le_of_ble_eq_true rfl) ⟨(by unfold q_lr; rw [if_neg c_12]; simp [bI, z2]), rfl, x⟩
    · have z2 := Int32.not_le.mp c_27
      refine mj_iconst (v := 1) dX11_likesRider_30 rfl ?_
      refine mj_goto 35 dX11_likesRider_31 (by decide) ?_
      exact mj_zret dX11_likesRider_35 rfl (by first | exact Or.inl rfl | exact Or.inr rfl) (Nat.le_of_ble_eq_true rfl) (Nat.le_of_ble_eq_true rfl) ⟨(by unfold q_lr; rw [if_neg c_12]; simp [bI, z2]), rfl, x⟩
set_option maxRecDepth 100000 in
set_option maxHeartbeats 4000000 in
theorem cn_X11_likesDriver {K : KX} {n : Nat} {h : MH} {h0 : MH} {m : Nat} {M : MS} (x : Md h0 m M h) {r d e : Nat} (hr : r < 20) (hd : d < 8) (he : e < 8) : Con K mX11_likesDriver [.ref m, .int (nI r), .int (nI d), .int (nI e)] 0 0 n h (RetP (some (.int (bI (q_ld M r d e)))) n (Md h0 m (M))) := by
  refine Con.of (by decide +kernel) (Nat.le_of_ble_eq_true rfl) ?_
  refine mj_aload_n 0 dX11_likesDriver_0 rfl ?_
  refine mj_iload_n 1 dX11_likesDriver_1 rfl ?_
  refine mj_iload_n 2 dX11_likesDriver_2 rfl ?_
  refine mj_cV1 [_, _] (RX11, TX11, 32) dX11_likesDriver_3 cwX11_solo lkX11_200 x.ko rfl rfl rfl rfl (cn_X11_solo x hr hd) ⟨Nat.le_of_ble_eq_true rfl, Nat.le_of_ble_eq_true rfl, Nat.le_of_ble_eq_true rfl, Nat.le_of_ble_eq_true rfl, Nat.le_of_ble_eq_true rfl⟩ (fun h x => ?_)
  refine mj_aload_n 0 dX11_likesDriver_6 rfl ?_
  refine mj_iload_n 2 dX11_likesDriver_7 rfl ?_
  refine mj_bipush (v := (7)) dX11_likesDriver_8 rfl ?_
  refine mj_cV1 [_, _] (RX11, TX11, 32) dX11_likesDriver_10 cwX11_driver lkX11_68 x.ko rfl rfl rfl rfl (cn_X11_driver x (d := d) (f := 7) hd (by decide)) ⟨Nat.le_of_ble_eq_true rfl, Nat.le_of_ble_eq_true rfl, Nat.le_of_ble_eq_true rfl, Nat.le_of_ble_eq_true rfl, Nat.le_of_ble_eq_true rfl⟩ (fun h x => ?_)
  refine mj_imul dX11_likesDriver_13 ?_
  refine mj_istore (ls' := [(4, _), (0, _), (1, _), (2, _), (3, _)]) dX11_likesDriver_14 (Nat.le_of_ble_eq_true rfl) rfl ?_
  refine mj_aload_n 1 dX11_likesDriver_16 rfl ?_
  refine mj_iload_n 2 dX11_likesDriver_17 rfl ?_
  refine mj_iload_n 4 dX11_likesDriver_18 rfl ?_
  refine mj_cV1 [_, _] (RX11, TX11, 32) dX11_likesDriver_19 cwX11_solo lkX11_200 x.ko rfl rfl rfl rfl (cn_X11_solo x hr he) ⟨Nat.le_of_ble_eq_true rfl, Nat.le_of_ble_eq_true rfl, Nat.le_of_ble_eq_true rfl, Nat.le_of_ble_eq_true rfl, Nat.le_of_ble_eq_true rfl⟩ (fun h x => ?_)
  refine mj_aload_n 1 dX11_likesDriver_22 rfl ?_
  refine mj_iload_n 4 dX11_likesDriver_23 rfl ?_
  refine mj_bipush (v := (7)) dX11_likesDriver_24 rfl ?_
  refine mj_cV1 [_, _] (RX11, TX11, 32) dX11_likesDriver_26 cwX11_driver lkX11_68 x.ko rfl rfl rfl rfl (cn_X11_driver x (d := e) (f := 7) he (by decide)) ⟨Nat.le_of_ble_eq_true rfl, Nat.le_of_ble_eq_true rfl, Nat.le_of_ble_eq_true rfl, Nat.le_of_ble_eq_true rfl, Nat.le_of_ble_eq_true rfl⟩ (fun h x => ?_)
  refine mj_imul dX11_likesDriver_29 ?_
  refine mj_istore (ls' := [(5, _), (4, _), (0, _), (1, _), (2, _), (3, _)]) dX11_likesDriver_30 (Nat.le_of_ble_eq_true rfl) rfl ?_
  refine mj_iload 1 dX11_likesDriver_32 rfl ?_
  refine mj_iload 0 dX11_likesDriver_34 rfl ?_
  refine mj_icmp_eq 54 dX11_likesDriver_36 (by decide) (fun c_36 => ?_) (fun c_36 => ?_)
  · have z1 : q_price M r d = q_price M r e := c_36
    refine mj_iload_n 4 dX11_likesDriver_54 rfl ?_
    refine mj_iload_n 5 dX11_likesDriver_55 rfl ?_
    refine mj_icmp_ge 63 dX11_likesDriver_56 (by decide) (fun c_56 => ?_) (fun c_56 => ?_)
    · have z3 : ¬ d < e := fun z => nI_ge z (by omega) c_56
      refine mj_iconst (v := 0) dX11_likesDriver_63 rfl ?_
      exact mj_zret dX11_likesDriver_64 rfl (by first | exact Or.inl rfl | exact Or.inr rfl) (Nat.le_of_ble_eq_true rfl) (Nat.le_of_ble_eq_true rfl) ⟨(by unfold q_ld; first | (rw [if_pos z1]; simp [bI, z3]; done) | (rw [if_neg z1]; simp [bI, z2]; done)), rfl, x⟩
    · have z3 : d < e := Nat.lt_of_not_le fun z => c_56 (nI_le z (by omega))
      refine mj_iconst (v := 1) dX11_likesDriver_59 rfl ?_
      refine mj_goto 64 dX11_likesDriver_60 (by decide) ?_
      exact mj_zret dX11_likesDriver_64 rfl (by first | exact Or.inl rfl | exact Or.inr rfl) (Nat.le_of_ble_eq_true rfl) (Nat.le_of_ble_eq_true rfl) ⟨(by unfold q_ld; first | (rw [if_pos z1]; simp [bI, z3]; done) | (rw [if_neg z1]; simp [bI, z2]; done)), rfl, x⟩
  · have z1 : ¬ q_price M r d = q_price M r e := c_36
    refine mj_iload 1 dX11_likesDriver_39 rfl ?_
    refine mj_iload 0 dX11_likesDriver_41 rfl ?_
    refine mj_icmp_ge 50 dX11_likesDriver_43 (by decide) (fun c_43 => ?_) (fun c_43 => ?_)
    · have z2 : ¬ q_price M r d < q_price M r e := Int32.not_lt.mpr c_43
      refine mj_iconst (v := 0) dX11_likesDriver_50 rfl ?_
      refine mj_goto 64 dX11_likesDriver_51 (by decide) ?_
      exact mj_zret dX11_likesDriver_64 rfl (by first | exact Or.inl rfl | exact Or.inr rfl) (Nat.le_of_ble_eq_true rfl) (Nat.le_of_ble_eq_true rfl) ⟨(by unfold q_ld; first | (rw [if_pos z1]; simp [bI, z3]; done) | (rw [if_neg z1]; simp [bI, z2]; done)), rfl, x⟩
    · have z2 : q_price M r d < q_price M r e := Int32.not_le.mp c_43
      refine mj_iconst (v := 1) dX11_likesDriver_46 rfl ?_
      refine mj_goto 64 dX11_likesDriver_47 (by decide) ?_
      exact mj_zret dX11_likesDriver_64 rfl (by first | exact Or.inl rfl | exact Or.inr rfl) (Nat.le_of_ble_eq_true rfl) (Nat.le_of_ble_eq_true rfl) ⟨(by unfold q_ld; first | (rw [if_pos z1]; simp [bI, z3]; done) | (rw [if_neg z1]; simp [bI, z2]; done)), rfl, x⟩
def q_ch (M : MS) (d r : Nat) : Bool := (decide (rF M r 6 = 0) || decide (rF M r 6 = 1)) && decide (gsol M (8 * r + d) < 1000000000)
set_option maxRecDepth 100000 in
set_option maxHeartbeats 4000000 in
theorem cn_X11_isChoice {K : KX} {n : Nat} {h : MH} {h0 : MH} {m : Nat} {M : MS} (x : Md h0 m M h) {d r : Nat} (hd : d < 8) (hr : r < 20) : Con K mX11_isChoice [.ref m, .int (nI d), .int (nI r)] 0 0 n h (RetP (some (.int (bI (q_ch M d r)))) n (Md h0 m (M))) := by
  refine Con.of (by decide +kernel) (Nat.le_of_ble_eq_true rfl) ?_
  refine mj_aload_n 0 dX11_isChoice_0 rfl ?_
  refine mj_iload_n 2 dX11_isChoice_1 rfl ?_
  refine mj_cV1 [_] (RX11, TX11, 32) dX11_isChoice_2 cwX11_takesPart lkX11_221 x.ko rfl rfl rfl rfl (cn_X11_takesPart x hr) ⟨Nat.le_of_ble_eq_true rfl, Nat.le_of_ble_eq_true rfl, Nat.le_of_ble_eq_true rfl, Nat.le_of_ble_eq_true rfl, Nat.le_of_ble_eq_true rfl⟩ (fun h x => ?_)
  refine mj_if_eq 21 dX11_isChoice_5 (by decide) (fun c_5 => ?_) (fun c_5 => ?_)
  · have z1 := bI_0.mp c_5
    refine mj_iconst (v := 0) dX11_isChoice_21 rfl ?_
    exact mj_zret dX11_isChoice_22 rfl (by first | exact Or.inl rfl | exact Or.inr rfl) (Nat.le_of_ble_eq_true rfl) (Nat.le_of_ble_eq_true rfl) ⟨(by unfold q_ch; first | (rw [z1, z2]; rfl) | (rw [z1]; rfl)), rfl, x⟩
  · have z1 := bI_n0.mp c_5
    refine mj_aload_n 0 dX11_isChoice_8 rfl ?_
    refine mj_iload_n 2 dX11_isChoice_9 rfl ?_
    refine mj_iload_n 1 dX11_isChoice_10 rfl ?_
    refine mj_cV1 [_, _] (RX11, TX11, 32) dX11_isChoice_11 cwX11_doFit lkX11_209 x.ko rfl rfl rfl rfl (cn_X11_doFit x hr hd) ⟨Nat.le_of_ble_eq_true rfl, Nat.le_of_ble_eq_true rfl, Nat.le_of_ble_eq_true rfl, Nat.le_of_ble_eq_true rfl, Nat.le_of_ble_eq_true rfl⟩ (fun h x => ?_)
    refine mj_if_eq 21 dX11_isChoice_14 (by decide) (fun c_14 => ?_) (fun c_14 => ?_)
    · have z2 := bI_0.mp c_14
      refine mj_iconst (v := 0) dX11_isChoice_21 rfl ?_
      exact mj_zret dX11_isChoice_22 rfl (by first | exact Or.inl rfl | exact Or.inr rfl) (Nat.le_of_ble_eq_true rfl) (Nat.le_of_ble_eq_true rfl) ⟨(by unfold q_ch; first | (rw [z1, z2]; rfl) | (rw [z1]; rfl)), rfl, x⟩
    · have z2 := bI_n0.mp c_14
      refine mj_iconst (v := 1) dX11_isChoice_17 rfl ?_
      refine mj_goto 22 dX11_isChoice_18 (by decide) ?_
      exact mj_zret dX11_isChoice_22 rfl (by first | exact Or.inl rfl | exact Or.inr rfl) (Nat.le_of_ble_eq_true rfl) (Nat.le_of_ble_eq_true rfl) ⟨(by unfold q_ch; first | (rw [z1, z2]; rfl) | (rw [z1]; rfl)), rfl, x⟩
def SCode (c : Int32) : Prop := ∃ q, q < 20 ∧ (c = nI q ∨ c = nI (100 + q))
def c_num (c : Int32) : Nat := if c < 100 then i_nat c else i_nat (c - 100)
def q_sx (M : MS) (c : Int32) : Int32 := if c < 100 then rF M (c_num c) 0 else rF M (c_num c) 2
def q_sy (M : MS) (c : Int32) : Int32 := if c < 100 then rF M (c_num c) 1 else rF M (c_num c) 3
theorem SCode.lt {c : Int32} (h : SCode c) (l : c < 100) : c_num c < 20 ∧ c = nI (c_num c) := by
  obtain ⟨q, hq, rfl | rfl⟩ := h
  · unfold c_num
    rw [if_pos l, i_nat_nI (by omega)]
    exact ⟨hq, rfl⟩
  · exfalso
    have := Int32.lt_iff_toInt_lt.mp l
    rw [ixn (by omega)] at this
    have e0 : (100 : Int32).toInt = 100 := rfl
    omega
theorem SCode.ge {c : Int32} (h : SCode c) (l : ¬ c < 100) : c_num c < 20 ∧ c - 100 = nI (c_num c) := by
  obtain ⟨q, hq, rfl | rfl⟩ := h
  · exfalso
    apply l
    apply Int32.lt_iff_toInt_lt.mpr
    rw [ixn (by omega)]
    have e0 : (100 : Int32).toInt = 100 := rfl
    omega
  · have e : nI (100 + q) - 100 = nI q := by
      have := pk_sub (a := 100 + q) (b := 100) (by omega)
      rw [show 100 + q - 100 = q by omega] at this
      exact this
    unfold c_num
    rw [if_neg l, e, i_nat_nI (by omega)]
    exact ⟨hq, rfl⟩
set_option maxRecDepth 100000 in
set_option maxHeartbeats 4000000 in
theorem cn_X11_stopX {K : KX} {n : Nat} {h : MH} {h0 : MH} {m : Nat} {M : MS} (x : Md h0 m M h) {c : Int32} (hc : SCode c) : Con K mX11_stopX [.ref m, .int c] 0 0 n h (RetP (some (.int (q_sx M c))) n (Md h0 m (M))) := by
  refine Con.of (by decide +kernel) (Nat.le_of_ble_eq_true rfl) ?_
  refine mj_iload_n 1 dX11_stopX_0 rfl ?_
  refine mj_bipush (v := (100)) dX11_stopX_1 rfl ?_
  refine mj_icmp_ge 15 dX11_stopX_3 (by decide) (fun c_3 => ?_) (fun c_3 => ?_)
  · have z1 : ¬ c < 100 := Int32.not_lt.mpr c_3
    obtain ⟨y1, y2⟩ := hc.ge z1
    refine mj_aload_n 0 dX11_stopX_15 rfl ?_
    refine mj_iload_n 1 dX11_stopX_16 rfl ?_
    refine mj_bipush (v := (100)) dX11_stopX_17 rfl ?_
    refine mj_isub dX11_stopX_19 ?_
    refine mj_eq y2 ?_
    refine mj_iconst (v := 2) dX11_stopX_20 rfl ?_
    refine mj_cV1 [_, _] (RX11, TX11, 32) dX11_stopX_21 cwX11_rider lkX11_72 x.ko rfl rfl rfl rfl (cn_X11_rider x (r := c_num c) (f := 2) y1 (by decide)) ⟨Nat.le_of_ble_eq_true rfl, Nat.le_of_ble_eq_true rfl, Nat.le_of_ble_eq_true rfl, Nat.le_of_ble_eq_true rfl, Nat.le_of_ble_eq_true rfl⟩ (fun h x => ?_)
    exact mj_iret dX11_stopX_24 rfl (Nat.le_of_ble_eq_true rfl) (Nat.le_of_ble_eq_true rfl) ⟨(by unfold q_sx; first | rw [if_pos z1] | rw [if_neg z1]), rfl, x⟩
  · have z1 : c < 100 := Int32.not_le.mp c_3
    obtain ⟨y1, y2⟩ := hc.lt z1
    refine mj_aload_n 0 dX11_stopX_6 rfl ?_
    refine mj_iload_n 1 dX11_stopX_7 rfl ?_
    refine mj_iconst (v := 0) dX11_stopX_8 rfl ?_
    refine mj_cV1 [.int c, _] (RX11, TX11, 32) dX11_stopX_9 cwX11_rider lkX11_72 x.ko rfl rfl rfl rfl (by rw [y2]; exact cn_X11_rider x (r := c_num c) (f := 0) y1 (by decide)) ⟨Nat.le_of_ble_eq_true rfl, Nat.le_of_ble_eq_true rfl, Nat.le_of_ble_eq_true rfl, Nat.le_of_ble_eq_true rfl, Nat.le_of_ble_eq_true rfl⟩ (fun h x => ?_)
    refine mj_goto 24 dX11_stopX_12 (by decide) ?_
    exact mj_iret dX11_stopX_24 rfl (Nat.le_of_ble_eq_true rfl) (Nat.le_of_ble_eq_true rfl) ⟨(by unfold q_sx; first | rw [if_pos z1] | rw [if_neg z1]), rfl, x⟩
set_option maxRecDepth 100000 in
set_option maxHeartbeats 4000000 in
theorem cn_X11_stopY {K : KX} {n : Nat} {h : MH} {h0 : MH} {m : Nat} {M : MS} (x : Md h0 m M h) {c : Int32} (hc : SCode c) : Con K mX11_stopY [.ref m, .int c] 0 0 n h (RetP (some (.int (q_sy M c))) n (Md h0 m (M))) := by
  refine Con.of (by decide +kernel) (Nat.le_of_ble_eq_true rfl) ?_
  refine mj_iload_n 1 dX11_stopY_0 rfl ?_
  refine mj_bipush (v := (100)) dX11_stopY_1 rfl ?_
  refine mj_icmp_ge 15 dX11_stopY_3 (by decide) (fun c_3 => ?_) (fun c_3 => ?_)
  · have z1 : ¬ c < 100 := Int32.not_lt.mpr c_3
    obtain ⟨y1, y2⟩ := hc.ge z1
    refine mj_aload_n 0 dX11_stopY_15 rfl ?_
    refine mj_iload_n 1 dX11_stopY_16 rfl ?_
    refine mj_bipush (v := (100)) dX11_stopY_17 rfl ?_
    refine mj_isub dX11_stopY_19 ?_
    refine mj_eq y2 ?_
    refine mj_iconst (v := 3) dX11_stopY_20 rfl ?_
    refine mj_cV1 [_, _] (RX11, TX11, 32) dX11_stopY_21 cwX11_rider lkX11_72 x.ko rfl rfl rfl rfl (cn_X11_rider x (r := c_num c) (f := 3) y1 (by decide)) ⟨Nat.le_of_ble_eq_true rfl, Nat.le_of_ble_eq_true rfl, Nat.le_of_ble_eq_true rfl, Nat.le_of_ble_eq_true rfl, Nat.le_of_ble_eq_true rfl⟩ (fun h x => ?_)
    exact mj_iret dX11_stopY_24 rfl (Nat.le_of_ble_eq_true rfl) (Nat.le_of_ble_eq_true rfl) ⟨(by unfold q_sy; first | rw [if_pos z1] | rw [if_neg z1]), rfl, x⟩
  · have z1 : c < 100 := Int32.not_le.mp c_3
    obtain ⟨y1, y2⟩ := hc.lt z1
    refine mj_aload_n 0 dX11_stopY_6 rfl ?_
    refine mj_iload_n 1 dX11_stopY_7 rfl ?_
    refine mj_iconst (v := 1) dX11_stopY_8 rfl ?_
    refine mj_cV1 [.int c, _] (RX11, TX11, 32) dX11_stopY_9 cwX11_rider lkX11_72 x.ko rfl rfl rfl rfl (by rw [y2]; exact cn_X11_rider x (r := c_num c) (f := 1) y1 (by decide)) ⟨Nat.le_of_ble_eq_true rfl, Nat.le_of_ble_eq_true rfl, Nat.le_of_ble_eq_true rfl, Nat.le_of_ble_eq_true rfl, Nat.le_of_ble_eq_true rfl⟩ (fun h x => ?_)
    refine mj_goto 24 dX11_stopY_12 (by decide) ?_
    exact mj_iret dX11_stopY_24 rfl (Nat.le_of_ble_eq_true rfl) (Nat.le_of_ble_eq_true rfl) ⟨(by unfold q_sy; first | rw [if_pos z1] | rw [if_neg z1]), rfl, x⟩
