theorem wR_ss (M : MS) (G : Nat → Int32) (r f : Nat) (v : Int32) : wR (sbrd M G) r f v = sbrd M (upd G (408 + 8 * r + f) v) := by
  unfold wR
  rw [sbrd_ss]
  rfl
theorem w_wo_n (wo : Int32) (l : List Int32) : (w_wo wo l).length ≤ l.length := List.length_filter_le _ _
set_option maxRecDepth 100000 in
set_option maxHeartbeats 4000000 in
theorem cn_X11_join {K : KX} {n : Nat} {h : MH} {h0 : MH} {m : Nat} {M : MS} (x : Md h0 m M h) {r d : Nat} {l : List Int32} (hr : r < 20) (hd : d < 8) (hg : Rok (gbrd M) d l) (hl : l.length ≤ 38) : Con K mX11_join [.ref m, .int (nI r), .int (nI d)] 0 0 n h (RetP (some (.int (w_extra (gbrd M) r d l))) n (Ms h0 m (sbrd M (w_joinG (gbrd M) r d l)))) := by
  refine Con.of (by decide +kernel) (Nat.le_of_ble_eq_true rfl) ?_
  refine mj_aload_n 0 dX11_join_0 rfl ?_
  refine mj_iload_n 1 dX11_join_1 rfl ?_
  refine mj_iload_n 2 dX11_join_2 rfl ?_
  refine mj_cV1 [_, _] (RX11, TX11, 32) dX11_join_3 cwX11_extraOf lkX11_182 x.ko rfl rfl rfl rfl (cn_X11_extraOf x hr hd hg) ⟨Nat.le_of_ble_eq_true rfl, Nat.le_of_ble_eq_true rfl, Nat.le_of_ble_eq_true rfl, Nat.le_of_ble_eq_true rfl, Nat.le_of_ble_eq_true rfl⟩ (fun h x => ?_)
  obtain ⟨M1, x, sc1⟩ := x
  refine mj_istore_n (ls' := [(3, _), (0, _), (1, _), (2, _)]) dX11_join_6 (Nat.le_of_ble_eq_true rfl) rfl ?_
  refine mj_iload_n 0 dX11_join_7 rfl ?_
  refine mj_ldc dX11_join_8 ctX11_166 ?_
  refine mj_icmp_ne 16 dX11_join_10 (by decide) (fun c_10 => ?_) (fun c_10 => ?_)
  · have zf : ¬ (f_find (gbrd M) d r l).1 = 1000000000 := fun q => c_10 (by unfold w_extra; rw [if_pos q]; split <;> rfl)
    have hpl := f_find_pl zf
    refine mj_aload_n 1 dX11_join_16 rfl ?_
    refine mj_iload_n 2 dX11_join_17 rfl ?_
    refine mj_iload_n 3 dX11_join_18 rfl ?_
    refine mj_aload_n 1 dX11_join_19 rfl ?_
    refine mj_iload_n 3 dX11_join_20 rfl ?_
    refine mj_bipush (v := (9)) dX11_join_21 rfl ?_
    refine mj_cV1 [_, _] (RX11, TX11, 32) dX11_join_23 cwX11_driver lkX11_68 x.ko rfl rfl rfl rfl (cn_X11_driver x (d := d) (f := 9) hd (by decide)) ⟨Nat.le_of_ble_eq_true rfl, Nat.le_of_ble_eq_true rfl, Nat.le_of_ble_eq_true rfl, Nat.le_of_ble_eq_true rfl, Nat.le_of_ble_eq_true rfl⟩ (fun h x => ?_)
    refine mj_eq ((congrFun sc1.b _).trans hg.1) ?_
    refine mj_cV0 [_, _, _] (RX11, TX11, 32) dX11_join_26 cwX11_findInsertion lkX11_179 x.ko rfl rfl rfl rfl (cn_X11_findInsertion x hr hd (by rw [sc1.b]; exact hg.2)) ⟨Nat.le_of_ble_eq_true rfl, Nat.le_of_ble_eq_true rfl, Nat.le_of_ble_eq_true rfl, Nat.le_of_ble_eq_true rfl, Nat.le_of_ble_eq_true rfl⟩ (fun h x => ?_)
    obtain ⟨M2, x, sc, hB⟩ := x
    rw [show gbrd M1 = gbrd M from sc1.b] at hB
    have sc2 : Sc M M2 := sc1.tr sc
    refine mj_aload_n 1 dX11_join_29 rfl ?_
    refine mj_iload_n 2 dX11_join_30 rfl ?_
    refine mj_iload_n 3 dX11_join_31 rfl ?_
    refine mj_aload_n 1 dX11_join_32 rfl ?_
    refine mj_iload_n 3 dX11_join_33 rfl ?_
    refine mj_bipush (v := (9)) dX11_join_34 rfl ?_
    refine mj_cV1 [_, _] (RX11, TX11, 32) dX11_join_36 cwX11_driver lkX11_68 x.ko rfl rfl rfl rfl (cn_X11_driver x (d := d) (f := 9) hd (by decide)) ⟨Nat.le_of_ble_eq_true rfl, Nat.le_of_ble_eq_true rfl, Nat.le_of_ble_eq_true rfl, Nat.le_of_ble_eq_true rfl, Nat.le_of_ble_eq_true rfl⟩ (fun h x => ?_)
    refine mj_eq ((congrFun sc2.b _).trans hg.1) ?_
    refine mj_aload_n 1 dX11_join_39 rfl ?_
    refine mj_getf dX11_join_40 fgX11_173 x.ko rfl ?_
    refine mj_eq ((hB.2 zf).1) ?_
    refine mj_aload_n 1 dX11_join_43 rfl ?_
    refine mj_getf dX11_join_44 fgX11_176 x.ko rfl ?_
    refine mj_eq ((hB.2 zf).2) ?_
    refine mj_cV0 [_, _, _, _, _] (RX11, TX11, 32) dX11_join_47 cwX11_layInsertion lkX11_170 x.ko rfl rfl rfl rfl (cn_X11_layInsertion x hr hd (by rw [sc2.b]; exact hg.2) hpl.1 hpl.2) ⟨Nat.le_of_ble_eq_true rfl, Nat.le_of_ble_eq_true rfl, Nat.le_of_ble_eq_true rfl, Nat.le_of_ble_eq_true rfl, Nat.le_of_ble_eq_true rfl⟩ (fun h x => ?_)
    obtain ⟨M3, x, me⟩ := x
    have sc3 : Sc M M3 := sc2.tr me.1.up
    refine mj_aload_n 1 dX11_join_50 rfl ?_
    refine mj_iload_n 3 dX11_join_51 rfl ?_
    refine mj_cV0 [_] (RX11, TX11, 32) dX11_join_52 cwX11_putRoute lkX11_191 x.ko rfl rfl rfl rfl (cr_putRoute x hd me.2.1 (by rw [w_ins_n l r (by omega) (by omega)]; omega)) ⟨Nat.le_of_ble_eq_true rfl, Nat.le_of_ble_eq_true rfl, Nat.le_of_ble_eq_true rfl, Nat.le_of_ble_eq_true rfl, Nat.le_of_ble_eq_true rfl⟩ (fun h x => ?_)
    refine mj_aload_n 1 dX11_join_55 rfl ?_
    refine mj_iload_n 2 dX11_join_56 rfl ?_
    refine mj_bipush (v := (6)) dX11_join_57 rfl ?_
    refine mj_iconst (v := 1) dX11_join_59 rfl ?_
    refine mj_cV0 [_, _, _] (RX11, TX11, 32) dX11_join_60 cwX11_setRider lkX11_105 x.ko rfl rfl rfl rfl (cn_X11_setRider x (r := r) (f := 6) (v := 1) hr (by decide)) ⟨Nat.le_of_ble_eq_true rfl, Nat.le_of_ble_eq_true rfl, Nat.le_of_ble_eq_true rfl, Nat.le_of_ble_eq_true rfl, Nat.le_of_ble_eq_true rfl⟩ (fun h x => ?_)
    refine mj_aload_n 1 dX11_join_63 rfl ?_
    refine mj_iload_n 2 dX11_join_64 rfl ?_
    refine mj_bipush (v := (7)) dX11_join_65 rfl ?_
    refine mj_iload_n 3 dX11_join_67 rfl ?_
    refine mj_cV0 [_, _, _] (RX11, TX11, 32) dX11_join_68 cwX11_setRider lkX11_105 x.ko rfl rfl rfl rfl (cn_X11_setRider x (r := r) (f := 7) (v := nI d) hr (by decide)) ⟨Nat.le_of_ble_eq_true rfl, Nat.le_of_ble_eq_true rfl, Nat.le_of_ble_eq_true rfl, Nat.le_of_ble_eq_true rfl, Nat.le_of_ble_eq_true rfl⟩ (fun h x => ?_)
    refine mj_iload_n 0 dX11_join_71 rfl ?_
    exact mj_iret dX11_join_72 rfl (Nat.le_of_ble_eq_true rfl) (Nat.le_of_ble_eq_true rfl) ⟨rfl, rfl, (by
        have q := x
        rw [wR_ss, wR_ss, show gbrd M3 = gbrd M from sc3.b] at q
        exact ⟨_, q, by unfold w_joinG; rw [if_neg c_10]; exact sc3.sA 1 _⟩)⟩
  · refine mj_ldc dX11_join_13 ctX11_166 ?_
    exact mj_iret dX11_join_15 rfl (Nat.le_of_ble_eq_true rfl) (Nat.le_of_ble_eq_true rfl) ⟨(by rw [c_10]), rfl, ⟨M1, x, by unfold w_joinG; rw [if_pos c_10, sbrd_id]; exact sc1⟩⟩
set_option maxRecDepth 100000 in
set_option maxHeartbeats 4000000 in
theorem cn_X11_leave {K : KX} {n : Nat} {h : MH} {h0 : MH} {m : Nat} {M : MS} (x : Md h0 m M h) {r d : Nat} {l : List Int32} (hr : r < 20) (hd : d < 8) (hg : Rok (gbrd M) d l) {st : Int32} (hdr : rF M r 7 = nI d) : Con K mX11_leave [.ref m, .int (nI r), .int st] 0 0 n h (RetP (some (.int (w_marg (gbrd M) r d l))) n (Ms h0 m (sbrd M (w_leaveG (gbrd M) r d l st)))) := by
  refine Con.of (by decide +kernel) (Nat.le_of_ble_eq_true rfl) ?_
  refine mj_aload_n 0 dX11_leave_0 rfl ?_
  refine mj_iload_n 1 dX11_leave_1 rfl ?_
  refine mj_bipush (v := (7)) dX11_leave_2 rfl ?_
  refine mj_cV1 [_, _] (RX11, TX11, 32) dX11_leave_4 cwX11_rider lkX11_72 x.ko rfl rfl rfl rfl (cn_X11_rider x (r := r) (f := 7) hr (by decide)) ⟨Nat.le_of_ble_eq_true rfl, Nat.le_of_ble_eq_true rfl, Nat.le_of_ble_eq_true rfl, Nat.le_of_ble_eq_true rfl, Nat.le_of_ble_eq_true rfl⟩ (fun h x => ?_)
  refine mj_eq (hdr) ?_
  refine mj_istore_n (ls' := [(3, _), (0, _), (1, _), (2, _)]) dX11_leave_7 (Nat.le_of_ble_eq_true rfl) rfl ?_
  refine mj_aload_n 1 dX11_leave_8 rfl ?_
  refine mj_iload_n 0 dX11_leave_9 rfl ?_
  refine mj_cV1 [_] (RX11, TX11, 32) dX11_leave_10 cwX11_lengthOf lkX11_163 x.ko rfl rfl rfl rfl (cr_lengthOf x hd hg) ⟨Nat.le_of_ble_eq_true rfl, Nat.le_of_ble_eq_true rfl, Nat.le_of_ble_eq_true rfl, Nat.le_of_ble_eq_true rfl, Nat.le_of_ble_eq_true rfl⟩ (fun h x => ?_)
  obtain ⟨M1, x, me1⟩ := x
  refine mj_istore (ls' := [(4, _), (3, _), (0, _), (1, _), (2, _)]) dX11_leave_13 (Nat.le_of_ble_eq_true rfl) rfl ?_
  refine mj_aload_n 2 dX11_leave_15 rfl ?_
  refine mj_iload_n 1 dX11_leave_16 rfl ?_
  refine mj_iload_n 3 dX11_leave_17 rfl ?_
  refine mj_cV0 [_, _] (RX11, TX11, 32) dX11_leave_18 cwX11_takeRoute lkX11_156 x.ko rfl rfl rfl rfl (cr_takeRoute x (wo := nI r) hd (by rw [me1.1.d]; exact hg)) ⟨Nat.le_of_ble_eq_true rfl, Nat.le_of_ble_eq_true rfl, Nat.le_of_ble_eq_true rfl, Nat.le_of_ble_eq_true rfl, Nat.le_of_ble_eq_true rfl⟩ (fun h x => ?_)
  obtain ⟨M2, x, me2⟩ := x
  have eb : gbrd M1 = gbrd M := me1.1.d
  have e2 : grlen M2 = w_len (gbrd M) d (w_wo (nI r) l) := by rw [← eb]; exact me2.2.2.1
  have sc2 : Sc M M2 := me1.1.up.tr me2.1.up
  refine mj_aload_n 2 dX11_leave_21 rfl ?_
  refine mj_iload_n 1 dX11_leave_22 rfl ?_
  refine mj_cV0 [_] (RX11, TX11, 32) dX11_leave_23 cwX11_putRoute lkX11_191 x.ko rfl rfl rfl rfl (cr_putRoute x hd me2.2.1 (Nat.le_trans (w_wo_n _ _) hg.2.2.1)) ⟨Nat.le_of_ble_eq_true rfl, Nat.le_of_ble_eq_true rfl, Nat.le_of_ble_eq_true rfl, Nat.le_of_ble_eq_true rfl, Nat.le_of_ble_eq_true rfl⟩ (fun h x => ?_)
  refine mj_aload_n 2 dX11_leave_26 rfl ?_
  refine mj_iload_n 3 dX11_leave_27 rfl ?_
  refine mj_bipush (v := (6)) dX11_leave_28 rfl ?_
  refine mj_iload_n 4 dX11_leave_30 rfl ?_
  refine mj_cV0 [_, _, _] (RX11, TX11, 32) dX11_leave_31 cwX11_setRider lkX11_105 x.ko rfl rfl rfl rfl (cn_X11_setRider x (r := r) (f := 6) (v := st) hr (by decide)) ⟨Nat.le_of_ble_eq_true rfl, Nat.le_of_ble_eq_true rfl, Nat.le_of_ble_eq_true rfl, Nat.le_of_ble_eq_true rfl, Nat.le_of_ble_eq_true rfl⟩ (fun h x => ?_)
  refine mj_aload_n 2 dX11_leave_34 rfl ?_
  refine mj_iload_n 3 dX11_leave_35 rfl ?_
  refine mj_bipush (v := (7)) dX11_leave_36 rfl ?_
  refine mj_iconst (v := (-1)) dX11_leave_38 rfl ?_
  refine mj_cV0 [_, _, _] (RX11, TX11, 32) dX11_leave_39 cwX11_setRider lkX11_105 x.ko rfl rfl rfl rfl (cn_X11_setRider x (r := r) (f := 7) (v := -1) hr (by decide)) ⟨Nat.le_of_ble_eq_true rfl, Nat.le_of_ble_eq_true rfl, Nat.le_of_ble_eq_true rfl, Nat.le_of_ble_eq_true rfl, Nat.le_of_ble_eq_true rfl⟩ (fun h x => ?_)
  refine mj_iload 0 dX11_leave_42 rfl ?_
  refine mj_aload_n 2 dX11_leave_44 rfl ?_
  refine mj_getf dX11_leave_45 fgX11_130 x.ko rfl ?_
  refine mj_eq ((show grlen (wR (wR (sbrd M2 _) r 6 st) r 7 (-1)) = w_len (gbrd M) d (w_wo (nI r) l) from e2)) ?_
  refine mj_isub dX11_leave_48 ?_
  exact mj_iret dX11_leave_49 rfl (Nat.le_of_ble_eq_true rfl) (Nat.le_of_ble_eq_true rfl) ⟨rfl, rfl, (by
      have q := x
      rw [wR_ss, wR_ss, show gbrd M2 = gbrd M from sc2.b] at q
      exact ⟨_, q, sc2.sA 1 _⟩)⟩
set_option maxRecDepth 100000 in
set_option maxHeartbeats 4000000 in
theorem cn_X11_marginalOf {K : KX} {n : Nat} {h : MH} {h0 : MH} {m : Nat} {M : MS} (x : Md h0 m M h) {r d : Nat} {l : List Int32} (hr : r < 20) (hd : d < 8) (hg : Rok (gbrd M) d l) (hdr : rF M r 7 = nI d) : Con K mX11_marginalOf [.ref m, .int (nI r)] 0 0 n h (RetP (some (.int (w_marg (gbrd M) r d l))) n (fun h9 => ∃ M9, Md h0 m M9 h9 ∧ Sr M M9)) := by
  refine Con.of (by decide +kernel) (Nat.le_of_ble_eq_true rfl) ?_
  refine mj_aload_n 0 dX11_marginalOf_0 rfl ?_
  refine mj_iload_n 1 dX11_marginalOf_1 rfl ?_
  refine mj_bipush (v := (7)) dX11_marginalOf_2 rfl ?_
  refine mj_cV1 [_, _] (RX11, TX11, 32) dX11_marginalOf_4 cwX11_rider lkX11_72 x.ko rfl rfl rfl rfl (cn_X11_rider x (r := r) (f := 7) hr (by decide)) ⟨Nat.le_of_ble_eq_true rfl, Nat.le_of_ble_eq_true rfl, Nat.le_of_ble_eq_true rfl, Nat.le_of_ble_eq_true rfl, Nat.le_of_ble_eq_true rfl⟩ (fun h x => ?_)
  refine mj_eq (hdr) ?_
  refine mj_istore_n (ls' := [(2, _), (0, _), (1, _)]) dX11_marginalOf_7 (Nat.le_of_ble_eq_true rfl) rfl ?_
  refine mj_aload_n 1 dX11_marginalOf_8 rfl ?_
  refine mj_iload_n 0 dX11_marginalOf_9 rfl ?_
  refine mj_cV1 [_] (RX11, TX11, 32) dX11_marginalOf_10 cwX11_lengthOf lkX11_163 x.ko rfl rfl rfl rfl (cr_lengthOf x hd hg) ⟨Nat.le_of_ble_eq_true rfl, Nat.le_of_ble_eq_true rfl, Nat.le_of_ble_eq_true rfl, Nat.le_of_ble_eq_true rfl, Nat.le_of_ble_eq_true rfl⟩ (fun h x => ?_)
  obtain ⟨M1, x, me1⟩ := x
  refine mj_istore_n (ls' := [(3, _), (2, _), (0, _), (1, _)]) dX11_marginalOf_13 (Nat.le_of_ble_eq_true rfl) rfl ?_
  refine mj_aload_n 2 dX11_marginalOf_14 rfl ?_
  refine mj_iload_n 1 dX11_marginalOf_15 rfl ?_
  refine mj_iload_n 3 dX11_marginalOf_16 rfl ?_
  refine mj_cV0 [_, _] (RX11, TX11, 32) dX11_marginalOf_17 cwX11_takeRoute lkX11_156 x.ko rfl rfl rfl rfl (cr_takeRoute x (wo := nI r) hd (by rw [me1.1.d]; exact hg)) ⟨Nat.le_of_ble_eq_true rfl, Nat.le_of_ble_eq_true rfl, Nat.le_of_ble_eq_true rfl, Nat.le_of_ble_eq_true rfl, Nat.le_of_ble_eq_true rfl⟩ (fun h x => ?_)
  obtain ⟨M2, x, me2⟩ := x
  have eb : gbrd M1 = gbrd M := me1.1.d
  have e2 : grlen M2 = w_len (gbrd M) d (w_wo (nI r) l) := by rw [← eb]; exact me2.2.2.1
  have sc2 : Sc M M2 := me1.1.up.tr me2.1.up
  refine mj_iload_n 0 dX11_marginalOf_20 rfl ?_
  refine mj_aload_n 2 dX11_marginalOf_21 rfl ?_
  refine mj_getf dX11_marginalOf_22 fgX11_130 x.ko rfl ?_
  refine mj_eq (e2) ?_
  refine mj_isub dX11_marginalOf_25 ?_
  exact mj_iret dX11_marginalOf_26 rfl (Nat.le_of_ble_eq_true rfl) (Nat.le_of_ble_eq_true rfl) ⟨rfl, rfl, ⟨M2, x, me1.1.tr me2.1⟩⟩
theorem lift_b {K : KX} {X : MI} {av : List Value} {mc ms n n1 : Nat} {h h0 : MH} {m : Nat} {M M9 : MS} {v : Option Value} {G : Nat → Int32} (sc : Sc M M9) (c : Con K X av mc ms n h (RetP v n1 (Ms h0 m (sbrd M9 G)))) : Con K X av mc ms n h (RetP v n1 (Ms h0 m (sbrd M G))) := c.mono fun _ _ _ q => ⟨q.1, q.2.1, Ms.tr (sc.sA 1 G) q.2.2⟩
theorem cs_join {K : KX} {n : Nat} {h h0 : MH} {m : Nat} {M : MS} (x : Ms h0 m M h) {r d : Nat} {l : List Int32} (hr : r < 20) (hd : d < 8) (hg : Rok (gbrd M) d l) (hl : l.length ≤ 38) : Con K mX11_join [.ref m, .int (nI r), .int (nI d)] 0 0 n h (RetP (some (.int (w_extra (gbrd M) r d l))) n (Ms h0 m (sbrd M (w_joinG (gbrd M) r d l)))) :=
  lift_s x fun M9 y sc => by
    rw [← (show gbrd M9 = gbrd M from sc.b)] at hg ⊢
    exact lift_b sc (cn_X11_join y hr hd hg hl)
theorem cs_leave {K : KX} {n : Nat} {h h0 : MH} {m : Nat} {M : MS} (x : Ms h0 m M h) {r d : Nat} {l : List Int32} {st : Int32} (hr : r < 20) (hd : d < 8) (hg : Rok (gbrd M) d l) (hdr : rF M r 7 = nI d) : Con K mX11_leave [.ref m, .int (nI r), .int st] 0 0 n h (RetP (some (.int (w_marg (gbrd M) r d l))) n (Ms h0 m (sbrd M (w_leaveG (gbrd M) r d l st)))) :=
  lift_s x fun M9 y sc => by
    have e : gbrd M9 = gbrd M := sc.b
    have hdr9 : rF M9 r 7 = nI d := (congrFun e _).trans hdr
    rw [← e] at hg ⊢
    exact lift_b sc (cn_X11_leave y hr hd hg hdr9)
theorem cs_marginalOf {K : KX} {n : Nat} {h h0 : MH} {m : Nat} {M : MS} (x : Ms h0 m M h) {r d : Nat} {l : List Int32} (hr : r < 20) (hd : d < 8) (hg : Rok (gbrd M) d l) (hdr : rF M r 7 = nI d) : Con K mX11_marginalOf [.ref m, .int (nI r)] 0 0 n h (RetP (some (.int (w_marg (gbrd M) r d l))) n (Ms h0 m M)) :=
  lift_s x fun M9 y sc => by
    have e : gbrd M9 = gbrd M := sc.b
    have hdr9 : rF M9 r 7 = nI d := (congrFun e _).trans hdr
    rw [← e] at hg ⊢
    exact (cn_X11_marginalOf y hr hd hg hdr9).mono fun _ _ _ q => ⟨q.1, q.2.1, by obtain ⟨M8, z1, z2⟩ := q.2.2; exact ⟨M8, z1, sc.tr z2.up⟩⟩
