set_option maxRecDepth 100000 in
set_option maxHeartbeats 4000000 in
theorem cn_X10_assignedRider_no {K : KX} {n : Nat} {h : MH} {c ba sa : Nat} {B : BS} (c0 : h c = some (cpC c ba sa)) (bd : Bd h ba B) {i : Int32} (hi : b_in i 0 (nI (bnr B) - 1) = false) : Con K mX10_assignedRider [.ref c, .int i] 1 6 n h (Thr "java/lang/IndexOutOfBoundsException" n h) := by
  have b0 := bd.1
  have b5 := bd.2.2.2.2.2.1
  have b6 := bd.2.2.2.2.2.2
  refine Con.of (by decide +kernel) (Nat.le_of_ble_eq_true rfl) ?_
  refine mj_aload_n 0 dX10_assignedRider_0 rfl ?_
  refine mj_getf dX10_assignedRider_1 fgX10_12 (by repeat (first | assumption | exact mup_s _ _ _ | rw [mup_n _ _ (by omega)])) rfl ?_
  refine mj_iload_n 1 dX10_assignedRider_4 rfl ?_
  exact mj_tV [_] (RX0, TX0, 5) dX10_assignedRider_5 cwX0_rider lkX10_152 b0 rfl rfl rfl rfl rfl (cn_X0_rider_no bd hi) ⟨Nat.le_of_ble_eq_true rfl, Nat.le_of_ble_eq_true rfl, Nat.le_of_ble_eq_true rfl, Nat.le_of_ble_eq_true rfl, Nat.le_of_ble_eq_true rfl⟩ (fun n9 h9 q1 q2 => ⟨rfl, q1, q2⟩)
set_option maxRecDepth 100000 in
set_option maxHeartbeats 4000000 in
theorem cn_X10_assignedRider_st {K : KX} {n : Nat} {h : MH} {c ba sa : Nat} {B : BS} (c0 : h c = some (cpC c ba sa)) (bd : Bd h ba B) {i : Int32} {r : Nat} (hi : i = nI r) (hr : r < bnr B) (hs : ¬ qst (bX B r) = 1) : Con K mX10_assignedRider [.ref c, .int i] 1 6 n h (Thr "java/lang/IllegalStateException" n h) := by
  have b0 := bd.1
  have b5 := bd.2.2.2.2.2.1
  have b6 := bd.2.2.2.2.2.2
  have re := bd.2.2.2.2.1 r (by omega)
  refine Con.of (by decide +kernel) (Nat.le_of_ble_eq_true rfl) ?_
  refine mj_aload_n 0 dX10_assignedRider_0 rfl ?_
  refine mj_getf dX10_assignedRider_1 fgX10_12 (by repeat (first | assumption | exact mup_s _ _ _ | rw [mup_n _ _ (by omega)])) rfl ?_
  refine mj_iload_n 1 dX10_assignedRider_4 rfl ?_
  refine mj_cV1 [_] (RX0, TX0, 5) dX10_assignedRider_5 cwX0_rider lkX10_152 (bd.1) rfl rfl rfl rfl (cn_X0_rider bd (j := r) hi hr) ⟨Nat.le_of_ble_eq_true rfl, Nat.le_of_ble_eq_true rfl, Nat.le_of_ble_eq_true rfl, Nat.le_of_ble_eq_true rfl, Nat.le_of_ble_eq_true rfl⟩ (fun h' e' => ?_)
  subst h'
  refine mj_astore_n (ls' := [(2, _), (0, _), (1, _)]) dX10_assignedRider_8 (Nat.le_of_ble_eq_true rfl) rfl ?_
  refine mj_aload_n 0 dX10_assignedRider_9 rfl ?_
  refine mj_getf dX10_assignedRider_10 fgX10_156 (by repeat (first | assumption | exact mup_s _ _ _ | rw [mup_n _ _ (by omega)])) rfl ?_
  refine mj_iconst (v := 1) dX10_assignedRider_13 rfl ?_
  refine mj_icmp_eq 28 dX10_assignedRider_14 (by decide) (fun c_14 => ?_) (fun c_14 => ?_)
  · exact absurd c_14 hs
  · exact mj_throwSW (text := "the rider is not assigned") dX10_assignedRider_17 dX10_assignedRider_20 dX10_assignedRider_21 dX10_assignedRider_24 dX10_assignedRider_27 thX10_80_84 (show (("Carpool", 322, "the rider is not assigned") : String × Nat × String) ∈ strK by decide +kernel) rfl (Nat.le_of_ble_eq_true rfl) (Nat.le_of_ble_eq_true rfl) (Nat.le_of_ble_eq_true rfl) (Nat.le_of_ble_eq_true rfl) (fun n9 h9 => ⟨rfl, h9, rfl⟩)
set_option maxRecDepth 100000 in
set_option maxHeartbeats 4000000 in
theorem cn_X10_assignedRider {K : KX} {n : Nat} {h : MH} {c ba sa : Nat} {B : BS} (c0 : h c = some (cpC c ba sa)) (bd : Bd h ba B) {i : Int32} {r : Nat} (hi : i = nI r) (hr : r < bnr B) (hs : qst (bX B r) = 1) : Con K mX10_assignedRider [.ref c, .int i] 0 0 n h (Ret (some (.ref (ba + 51 + r))) n h) := by
  have b0 := bd.1
  have b5 := bd.2.2.2.2.2.1
  have b6 := bd.2.2.2.2.2.2
  have re := bd.2.2.2.2.1 r (by omega)
  refine Con.of (by decide +kernel) (Nat.le_of_ble_eq_true rfl) ?_
  refine mj_aload_n 0 dX10_assignedRider_0 rfl ?_
  refine mj_getf dX10_assignedRider_1 fgX10_12 (by repeat (first | assumption | exact mup_s _ _ _ | rw [mup_n _ _ (by omega)])) rfl ?_
  refine mj_iload_n 1 dX10_assignedRider_4 rfl ?_
  refine mj_cV1 [_] (RX0, TX0, 5) dX10_assignedRider_5 cwX0_rider lkX10_152 (bd.1) rfl rfl rfl rfl (cn_X0_rider bd (j := r) hi hr) ⟨Nat.le_of_ble_eq_true rfl, Nat.le_of_ble_eq_true rfl, Nat.le_of_ble_eq_true rfl, Nat.le_of_ble_eq_true rfl, Nat.le_of_ble_eq_true rfl⟩ (fun h' e' => ?_)
  subst h'
  refine mj_astore_n (ls' := [(2, _), (0, _), (1, _)]) dX10_assignedRider_8 (Nat.le_of_ble_eq_true rfl) rfl ?_
  refine mj_aload_n 0 dX10_assignedRider_9 rfl ?_
  refine mj_getf dX10_assignedRider_10 fgX10_156 (by repeat (first | assumption | exact mup_s _ _ _ | rw [mup_n _ _ (by omega)])) rfl ?_
  refine mj_iconst (v := 1) dX10_assignedRider_13 rfl ?_
  refine mj_icmp_eq 28 dX10_assignedRider_14 (by decide) (fun c_14 => ?_) (fun c_14 => ?_)
  · refine mj_aload_n 0 dX10_assignedRider_28 rfl ?_
    exact mj_aret dX10_assignedRider_29 rfl (Or.inr ⟨_, rfl⟩) (Nat.le_of_ble_eq_true rfl) (Nat.le_of_ble_eq_true rfl) ⟨rfl, rfl, rfl⟩
  · exact absurd hs c_14
def x_out (X : RdS) (st : Int32) : RdS := (qfx X, qfy X, qtx X, qty X, qrd X, qdl X, st, -1, qcr X)
def x_cr (X : RdS) (cr : Int64) : RdS := (qfx X, qfy X, qtx X, qty X, qrd X, qdl X, qst X, qdr X, cr)
def x_st (X : RdS) (st : Int32) : RdS := (qfx X, qfy X, qtx X, qty X, qrd X, qdl X, st, qdr X, qcr X)
def d_cr (D : DS) (cr : Int64) : DS := (dse D, dde D, dli D, dra D, ddo D, cr)
def Bout (B : BS) (r d : Nat) (st : Int32) (T : RS) : BS := b_setX (b_setT B d T) r (x_out (bX B r) st)
set_option maxRecDepth 100000 in
set_option maxHeartbeats 4000000 in
theorem cn_X10_takeOut {K : KX} {n : Nat} {h : MH} {c ba sa : Nat} {B : BS} (c0 : h c = some (cpC c ba sa)) (bd : Bd h ba B) {r d : Nat} (hr : r < bnr B) (hd : d < bnd B) (hq : qdr (bX B r) = nI d) {st : Int32} : Con K mX10_takeOut [.ref c, .ref (ba + 51 + r), .int st] 0 0 n h (RetP none n (fun h' => ∃ T, Rrem (bT B d) (nI r) T ∧ Bd h' ba (Bout B r d st T) ∧ Off ba (ba + 71) h h')) := by
  have b0 := bd.1
  have b5 := bd.2.2.2.2.2.1
  have b6 := bd.2.2.2.2.2.2
  obtain ⟨de, dt⟩ := bd.2.2.2.1 d (by omega)
  have dt0 := dt.1
  have re := bd.2.2.2.2.1 r (by omega)
  refine Con.of (by decide +kernel) (Nat.le_of_ble_eq_true rfl) ?_
  refine mj_aload_n 0 dX10_takeOut_0 rfl ?_
  refine mj_getf dX10_takeOut_1 fgX10_12 (by repeat (first | assumption | exact mup_s _ _ _ | rw [mup_n _ _ (by omega)])) rfl ?_
  refine mj_aload_n 1 dX10_takeOut_4 rfl ?_
  refine mj_getf dX10_takeOut_5 fgX10_159 (by repeat (first | assumption | exact mup_s _ _ _ | rw [mup_n _ _ (by omega)])) rfl ?_
  refine mj_cV1 [_] (RX0, TX0, 5) dX10_takeOut_8 cwX0_driver lkX10_99 (bd.1) rfl rfl rfl rfl (cn_X0_driver bd (j := d) hq hd) ⟨Nat.le_of_ble_eq_true rfl, Nat.le_of_ble_eq_true rfl, Nat.le_of_ble_eq_true rfl, Nat.le_of_ble_eq_true rfl, Nat.le_of_ble_eq_true rfl⟩ (fun h' e' => ?_)
  subst h'
  refine mj_getf dX10_takeOut_11 fgX10_113 (by repeat (first | assumption | exact mup_s _ _ _ | rw [mup_n _ _ (by omega)])) rfl ?_
  refine mj_aload_n 1 dX10_takeOut_14 rfl ?_
  refine mj_getf dX10_takeOut_15 fgX10_146 (by repeat (first | assumption | exact mup_s _ _ _ | rw [mup_n _ _ (by omega)])) rfl ?_
  refine mj_cV0 [_] (RX6, TX6, 5) dX10_takeOut_18 cwX6_remove lkX10_324 dt0 rfl rfl rfl rfl (cn_X6_remove dt) ⟨Nat.le_of_ble_eq_true rfl, Nat.le_of_ble_eq_true rfl, Nat.le_of_ble_eq_true rfl, Nat.le_of_ble_eq_true rfl, Nat.le_of_ble_eq_true rfl⟩ (fun h' e' => ?_)
  obtain ⟨T, t1, t2, t3⟩ := e'
  have re := t3.at re (by omega)
  have bd7 := bd.setT (d := d) (by omega) (by rw [show ba + 4 + 6 * d = ba + 3 + 6 * d + 1 by omega]; exact t1) (t3.up (by omega) (by omega))
  refine mj_aload_n 1 dX10_takeOut_21 rfl ?_
  refine mj_iconst (v := (-1)) dX10_takeOut_22 rfl ?_
  refine mj_putf dX10_takeOut_23 fgX10_159 (by repeat (first | assumption | exact mup_s _ _ _ | rw [mup_n _ _ (by omega)])) rfl rfl rfl (Nat.le_of_ble_eq_true rfl) rfl ?_
  refine mj_aload_n 1 dX10_takeOut_26 rfl ?_
  refine mj_iload_n 2 dX10_takeOut_27 rfl ?_
  refine mj_putf dX10_takeOut_28 fgX10_156 (by repeat (first | assumption | exact mup_s _ _ _ | rw [mup_n _ _ (by omega)])) rfl rfl rfl (Nat.le_of_ble_eq_true rfl) rfl ?_
  exact mj_vret dX10_takeOut_31 rfl (Nat.le_of_ble_eq_true rfl) (Nat.le_of_ble_eq_true rfl) ⟨rfl, rfl, ⟨T, t2, bd7.setX (Y := x_out (bX B r) st) (by omega) (mup_s _ _ _) ((Off.m0 _ (by omega) (by omega)).m _ (by omega) (by omega)), ((t3.up (by omega) (by omega)).m _ (by omega) (by omega)).m _ (by omega) (by omega)⟩⟩
set_option maxRecDepth 100000 in
set_option maxHeartbeats 4000000 in
theorem cn_X10_unassign_no {K : KX} {n : Nat} {h : MH} {c : Nat} {P : CS} (x : Cp h n c P) {i : Int32} (hi : b_in i 0 (nI (bnr (pB P)) - 1) = false) : Con K mX10_unassign [.ref c, .int i] 1 6 n h (Thr "java/lang/IndexOutOfBoundsException" n h) := by
  obtain ⟨ba, sa, Sp, S, H, A, V, Kx, x, xfc, xfp⟩ := x
  obtain ⟨c0, bd, sp, sv, ins, pf, mt, sh, tx, rd, ad, nn⟩ := id x
  have b0 := bd.1
  have b5 := bd.2.2.2.2.2.1
  have b6 := bd.2.2.2.2.2.2
  have adr := x.adr
  refine Con.of (by decide +kernel) (Nat.le_of_ble_eq_true rfl) ?_
  refine mj_aload_n 0 dX10_unassign_0 rfl ?_
  refine mj_iload_n 1 dX10_unassign_1 rfl ?_
  exact mj_tV [_] (RX10, TX10, 9) dX10_unassign_2 cwX10_assignedRider lkX10_209 c0 rfl rfl rfl rfl rfl (cn_X10_assignedRider_no c0 bd hi) ⟨Nat.le_of_ble_eq_true rfl, Nat.le_of_ble_eq_true rfl, Nat.le_of_ble_eq_true rfl, Nat.le_of_ble_eq_true rfl, Nat.le_of_ble_eq_true rfl⟩ (fun n9 h9 q1 q2 => ⟨rfl, q1, q2⟩)
set_option maxRecDepth 100000 in
set_option maxHeartbeats 4000000 in
theorem cn_X10_unassign_st {K : KX} {n : Nat} {h : MH} {c : Nat} {P : CS} (x : Cp h n c P) {i : Int32} {r : Nat} (hi : i = nI r) (hr : r < bnr (pB P)) (hs : ¬ qst (bX (pB P) r) = 1) : Con K mX10_unassign [.ref c, .int i] 1 6 n h (Thr "java/lang/IllegalStateException" n h) := by
  obtain ⟨ba, sa, Sp, S, H, A, V, Kx, x, xfc, xfp⟩ := x
  obtain ⟨c0, bd, sp, sv, ins, pf, mt, sh, tx, rd, ad, nn⟩ := id x
  have b0 := bd.1
  have b5 := bd.2.2.2.2.2.1
  have b6 := bd.2.2.2.2.2.2
  have adr := x.adr
  refine Con.of (by decide +kernel) (Nat.le_of_ble_eq_true rfl) ?_
  refine mj_aload_n 0 dX10_unassign_0 rfl ?_
  refine mj_iload_n 1 dX10_unassign_1 rfl ?_
  exact mj_tV [_] (RX10, TX10, 9) dX10_unassign_2 cwX10_assignedRider lkX10_209 c0 rfl rfl rfl rfl rfl (cn_X10_assignedRider_st c0 bd hi hr hs) ⟨Nat.le_of_ble_eq_true rfl, Nat.le_of_ble_eq_true rfl, Nat.le_of_ble_eq_true rfl, Nat.le_of_ble_eq_true rfl, Nat.le_of_ble_eq_true rfl⟩ (fun n9 h9 q1 q2 => ⟨rfl, q1, q2⟩)
set_option maxRecDepth 100000 in
set_option maxHeartbeats 4000000 in
theorem cn_X10_noShow_no {K : KX} {n : Nat} {h : MH} {c : Nat} {P : CS} (x : Cp h n c P) {i : Int32} (hi : b_in i 0 (nI (bnr (pB P)) - 1) = false) : Con K mX10_noShow [.ref c, .int i] 1 6 n h (Thr "java/lang/IndexOutOfBoundsException" n h) := by
  obtain ⟨ba, sa, Sp, S, H, A, V, Kx, x, xfc, xfp⟩ := x
  obtain ⟨c0, bd, sp, sv, ins, pf, mt, sh, tx, rd, ad, nn⟩ := id x
  have b0 := bd.1
  have b5 := bd.2.2.2.2.2.1
  have b6 := bd.2.2.2.2.2.2
  have adr := x.adr
  refine Con.of (by decide +kernel) (Nat.le_of_ble_eq_true rfl) ?_
  refine mj_aload_n 0 dX10_noShow_0 rfl ?_
  refine mj_iload_n 1 dX10_noShow_1 rfl ?_
  exact mj_tV [_] (RX10, TX10, 9) dX10_noShow_2 cwX10_assignedRider lkX10_209 c0 rfl rfl rfl rfl rfl (cn_X10_assignedRider_no c0 bd hi) ⟨Nat.le_of_ble_eq_true rfl, Nat.le_of_ble_eq_true rfl, Nat.le_of_ble_eq_true rfl, Nat.le_of_ble_eq_true rfl, Nat.le_of_ble_eq_true rfl⟩ (fun n9 h9 q1 q2 => ⟨rfl, q1, q2⟩)
set_option maxRecDepth 100000 in
set_option maxHeartbeats 4000000 in
theorem cn_X10_noShow_st {K : KX} {n : Nat} {h : MH} {c : Nat} {P : CS} (x : Cp h n c P) {i : Int32} {r : Nat} (hi : i = nI r) (hr : r < bnr (pB P)) (hs : ¬ qst (bX (pB P) r) = 1) : Con K mX10_noShow [.ref c, .int i] 1 6 n h (Thr "java/lang/IllegalStateException" n h) := by
  obtain ⟨ba, sa, Sp, S, H, A, V, Kx, x, xfc, xfp⟩ := x
  obtain ⟨c0, bd, sp, sv, ins, pf, mt, sh, tx, rd, ad, nn⟩ := id x
  have b0 := bd.1
  have b5 := bd.2.2.2.2.2.1
  have b6 := bd.2.2.2.2.2.2
  have adr := x.adr
  refine Con.of (by decide +kernel) (Nat.le_of_ble_eq_true rfl) ?_
  refine mj_aload_n 0 dX10_noShow_0 rfl ?_
  refine mj_iload_n 1 dX10_noShow_1 rfl ?_
  exact mj_tV [_] (RX10, TX10, 9) dX10_noShow_2 cwX10_assignedRider lkX10_209 c0 rfl rfl rfl rfl rfl (cn_X10_assignedRider_st c0 bd hi hr hs) ⟨Nat.le_of_ble_eq_true rfl, Nat.le_of_ble_eq_true rfl, Nat.le_of_ble_eq_true rfl, Nat.le_of_ble_eq_true rfl, Nat.le_of_ble_eq_true rfl⟩ (fun n9 h9 q1 q2 => ⟨rfl, q1, q2⟩)
theorem Bout_T (B : BS) (r d : Nat) (st : Int32) (T : RS) : bT (Bout B r d st T) d = T := vf_s _ _ _
theorem Bout_D (B : BS) (r d : Nat) (st : Int32) (T : RS) : bD (Bout B r d st T) = bD B := rfl
theorem Bout_X (B : BS) (r d : Nat) (st : Int32) (T : RS) : bX (Bout B r d st T) r = x_out (bX B r) st := vf_s _ _ _
set_option maxRecDepth 100000 in
set_option maxHeartbeats 4000000 in
theorem cn_X10_unassign {K : KX} {n : Nat} {h : MH} {c : Nat} {P : CS} (x : Cp h n c P) {i : Int32} {r : Nat} (hi : i = nI r) (hr : r < bnr (pB P)) (hs : qst (bX (pB P) r) = 1) {d : Nat} (hd : d < bnd (pB P)) (hq : qdr (bX (pB P) r) = nI d) (ht : 2 ≤ rn (bT (pB P) d)) (ht2 : ∀ T, Rrem (bT (pB P) d) (nI r) T → 2 ≤ rn T) : Con K mX10_unassign [.ref c, .int i] 0 0 n h (fun r9 n9 h' => ∃ T, Rrem (bT (pB P) d) (nI r) T ∧ r9 = .inl (some (.int (r_len (bT (pB P) d) - r_len T))) ∧ n9 = n ∧ CpE h h' n c (p_setB P (Bout (pB P) r d 0 T))) := by
  obtain ⟨ba, sa, Sp, S, H, A, V, Kx, x, xfc, xfp⟩ := x
  obtain ⟨c0, bd, sp, sv, ins, pf, mt, sh, tx, rd, ad, nn⟩ := id x
  have b0 := bd.1
  have b5 := bd.2.2.2.2.2.1
  have b6 := bd.2.2.2.2.2.2
  have adr := x.adr
  obtain ⟨de, dt⟩ := bd.2.2.2.1 d (by omega)
  have dt0 := dt.1
  have re := bd.2.2.2.2.1 r (by omega)
  refine Con.of (by decide +kernel) (Nat.le_of_ble_eq_true rfl) ?_
  refine mj_aload_n 0 dX10_unassign_0 rfl ?_
  refine mj_iload_n 1 dX10_unassign_1 rfl ?_
  refine mj_cV1 [_] (RX10, TX10, 9) dX10_unassign_2 cwX10_assignedRider lkX10_209 c0 rfl rfl rfl rfl (cn_X10_assignedRider c0 bd hi hr hs) ⟨Nat.le_of_ble_eq_true rfl, Nat.le_of_ble_eq_true rfl, Nat.le_of_ble_eq_true rfl, Nat.le_of_ble_eq_true rfl, Nat.le_of_ble_eq_true rfl⟩ (fun h' e' => ?_)
  subst h'
  refine mj_astore_n (ls' := [(2, _), (0, _), (1, _)]) dX10_unassign_5 (Nat.le_of_ble_eq_true rfl) rfl ?_
  refine mj_aload_n 1 dX10_unassign_6 rfl ?_
  refine mj_getf dX10_unassign_7 fgX10_12 (by repeat (first | assumption | exact mup_s _ _ _ | rw [mup_n _ _ (by omega)])) rfl ?_
  refine mj_aload_n 0 dX10_unassign_10 rfl ?_
  refine mj_getf dX10_unassign_11 fgX10_159 (by repeat (first | assumption | exact mup_s _ _ _ | rw [mup_n _ _ (by omega)])) rfl ?_
  refine mj_cV1 [_] (RX0, TX0, 5) dX10_unassign_14 cwX0_driver lkX10_99 (bd.1) rfl rfl rfl rfl (cn_X0_driver bd (j := d) hq hd) ⟨Nat.le_of_ble_eq_true rfl, Nat.le_of_ble_eq_true rfl, Nat.le_of_ble_eq_true rfl, Nat.le_of_ble_eq_true rfl, Nat.le_of_ble_eq_true rfl⟩ (fun h' e' => ?_)
  subst h'
  refine mj_getf dX10_unassign_17 fgX10_113 (by repeat (first | assumption | exact mup_s _ _ _ | rw [mup_n _ _ (by omega)])) rfl ?_
  refine mj_astore_n (ls' := [(3, _), (2, _), (0, _), (1, _)]) dX10_unassign_20 (Nat.le_of_ble_eq_true rfl) rfl ?_
  refine mj_aload_n 0 dX10_unassign_21 rfl ?_
  refine mj_cV1 [] (RX6, TX6, 5) dX10_unassign_22 cwX6_length lkX10_187 (dt.1) rfl rfl rfl rfl (cn_X6_length dt (by omega)) ⟨Nat.le_of_ble_eq_true rfl, Nat.le_of_ble_eq_true rfl, Nat.le_of_ble_eq_true rfl, Nat.le_of_ble_eq_true rfl, Nat.le_of_ble_eq_true rfl⟩ (fun h9 e' => ?_)
  subst h9
  refine mj_istore (ls' := [(4, _), (3, _), (2, _), (0, _), (1, _)]) dX10_unassign_25 (Nat.le_of_ble_eq_true rfl) rfl ?_
  refine mj_aload_n 3 dX10_unassign_27 rfl ?_
  refine mj_aload_n 2 dX10_unassign_28 rfl ?_
  refine mj_iconst (v := 0) dX10_unassign_29 rfl ?_
  refine mj_cV0 [_, _] (RX10, TX10, 9) dX10_unassign_30 cwX10_takeOut lkX10_212 c0 rfl rfl rfl rfl (cn_X10_takeOut c0 bd hr hd hq) ⟨Nat.le_of_ble_eq_true rfl, Nat.le_of_ble_eq_true rfl, Nat.le_of_ble_eq_true rfl, Nat.le_of_ble_eq_true rfl, Nat.le_of_ble_eq_true rfl⟩ (fun h' e' => ?_)
  obtain ⟨T, t2, bd7, o7⟩ := e'
  have c07 := o7.at c0 (by omega)
  obtain ⟨de7, dt7⟩ := bd7.2.2.2.1 d (by omega)
  have b07 := bd7.1
  rw [Bout_T] at dt7
  refine mj_iload 0 dX10_unassign_33 rfl ?_
  refine mj_aload_n 1 dX10_unassign_35 rfl ?_
  refine mj_cV1 [] (RX6, TX6, 5) dX10_unassign_36 cwX6_length lkX10_187 (dt7.1) rfl rfl rfl rfl (cn_X6_length dt7 (Nat.le_trans (by omega) (ht2 T t2))) ⟨Nat.le_of_ble_eq_true rfl, Nat.le_of_ble_eq_true rfl, Nat.le_of_ble_eq_true rfl, Nat.le_of_ble_eq_true rfl, Nat.le_of_ble_eq_true rfl⟩ (fun h9 e' => ?_)
  subst h9
  refine mj_isub dX10_unassign_39 ?_
  exact mj_iret dX10_unassign_40 rfl (Nat.le_of_ble_eq_true rfl) (Nat.le_of_ble_eq_true rfl) ⟨T, t2, rfl, rfl, (⟨ba, sa, Sp, S, H, A, V, Kx, x.bd bd7 (ins.at fun q h1 h2 => o7 q (by omega)) (pf.at fun q h1 h2 => o7 q (by omega)) (mt.at fun q h1 h2 => o7 q (by omega)) (sh.at fun q h1 h2 => o7 q (by omega)) (Off.to1 (o7.up (by omega) (by omega))), xfc, xfp⟩ : Cp _ n c (p_setB P (Bout (pB P) r d 0 T))), o7.toC (by omega) (by omega)⟩
def b_nosh (B : BS) (r d : Nat) (T : RS) : BS := b_setD (b_setX (Bout B r d 2 T) r (x_cr (x_out (bX B r) 2) (qcr (bX B r) - (bpe B).toInt64))) d (d_cr (bD B d) (dcr (bD B d) + (bpe B).toInt64))
set_option maxRecDepth 100000 in
set_option maxHeartbeats 4000000 in
theorem cn_X10_noShow {K : KX} {n : Nat} {h : MH} {c : Nat} {P : CS} (x : Cp h n c P) {i : Int32} {r : Nat} (hi : i = nI r) (hr : r < bnr (pB P)) (hs : qst (bX (pB P) r) = 1) {d : Nat} (hd : d < bnd (pB P)) (hq : qdr (bX (pB P) r) = nI d) : Con K mX10_noShow [.ref c, .int i] 0 0 n h (fun r9 n9 h' => ∃ T, Rrem (bT (pB P) d) (nI r) T ∧ r9 = .inl (some (.int (nI d))) ∧ n9 = n ∧ CpE h h' n c (p_setB P (b_nosh (pB P) r d T))) := by
  obtain ⟨ba, sa, Sp, S, H, A, V, Kx, x, xfc, xfp⟩ := x
  obtain ⟨c0, bd, sp, sv, ins, pf, mt, sh, tx, rd, ad, nn⟩ := id x
  have b0 := bd.1
  have b5 := bd.2.2.2.2.2.1
  have b6 := bd.2.2.2.2.2.2
  have adr := x.adr
  obtain ⟨de, dt⟩ := bd.2.2.2.1 d (by omega)
  have dt0 := dt.1
  have re := bd.2.2.2.2.1 r (by omega)
  refine Con.of (by decide +kernel) (Nat.le_of_ble_eq_true rfl) ?_
  refine mj_aload_n 0 dX10_noShow_0 rfl ?_
  refine mj_iload_n 1 dX10_noShow_1 rfl ?_
  refine mj_cV1 [_] (RX10, TX10, 9) dX10_noShow_2 cwX10_assignedRider lkX10_209 c0 rfl rfl rfl rfl (cn_X10_assignedRider c0 bd hi hr hs) ⟨Nat.le_of_ble_eq_true rfl, Nat.le_of_ble_eq_true rfl, Nat.le_of_ble_eq_true rfl, Nat.le_of_ble_eq_true rfl, Nat.le_of_ble_eq_true rfl⟩ (fun h' e' => ?_)
  subst h'
  refine mj_astore_n (ls' := [(2, _), (0, _), (1, _)]) dX10_noShow_5 (Nat.le_of_ble_eq_true rfl) rfl ?_
  refine mj_aload_n 1 dX10_noShow_6 rfl ?_
  refine mj_getf dX10_noShow_7 fgX10_12 (by repeat (first | assumption | exact mup_s _ _ _ | rw [mup_n _ _ (by omega)])) rfl ?_
  refine mj_aload_n 0 dX10_noShow_10 rfl ?_
  refine mj_getf dX10_noShow_11 fgX10_159 (by repeat (first | assumption | exact mup_s _ _ _ | rw [mup_n _ _ (by omega)])) rfl ?_
  refine mj_cV1 [_] (RX0, TX0, 5) dX10_noShow_14 cwX0_driver lkX10_99 (bd.1) rfl rfl rfl rfl (cn_X0_driver bd (j := d) hq hd) ⟨Nat.le_of_ble_eq_true rfl, Nat.le_of_ble_eq_true rfl, Nat.le_of_ble_eq_true rfl, Nat.le_of_ble_eq_true rfl, Nat.le_of_ble_eq_true rfl⟩ (fun h' e' => ?_)
  subst h'
  refine mj_astore_n (ls' := [(3, _), (2, _), (0, _), (1, _)]) dX10_noShow_17 (Nat.le_of_ble_eq_true rfl) rfl ?_
  refine mj_aload_n 2 dX10_noShow_18 rfl ?_
  refine mj_aload_n 1 dX10_noShow_19 rfl ?_
  refine mj_iconst (v := 2) dX10_noShow_20 rfl ?_
  refine mj_cV0 [_, _] (RX10, TX10, 9) dX10_noShow_21 cwX10_takeOut lkX10_212 c0 rfl rfl rfl rfl (cn_X10_takeOut c0 bd hr hd hq) ⟨Nat.le_of_ble_eq_true rfl, Nat.le_of_ble_eq_true rfl, Nat.le_of_ble_eq_true rfl, Nat.le_of_ble_eq_true rfl, Nat.le_of_ble_eq_true rfl⟩ (fun h' e' => ?_)
  obtain ⟨T, t2, bd7, o7⟩ := e'
  have c07 := o7.at c0 (by omega)
  obtain ⟨de7, dt7⟩ := bd7.2.2.2.1 d (by omega)
  have b07 := bd7.1
  have re7 := bd7.2.2.2.2.1 r (by omega)
  rw [Bout_X] at re7
  rw [Bout_D] at de7
  refine mj_aload_n 1 dX10_noShow_24 rfl ?_
  refine mj_dup dX10_noShow_25 rfl ?_
  refine mj_getf dX10_noShow_26 fgX10_243 (by repeat (first | assumption | exact mup_s _ _ _ | rw [mup_n _ _ (by omega)])) rfl ?_
  refine mj_aload_n 2 dX10_noShow_29 rfl ?_
  refine mj_getf dX10_noShow_30 fgX10_12 (by repeat (first | assumption | exact mup_s _ _ _ | rw [mup_n _ _ (by omega)])) rfl ?_
  refine mj_getf dX10_noShow_33 fgX10_166 (by repeat (first | assumption | exact mup_s _ _ _ | rw [mup_n _ _ (by omega)])) rfl ?_
  refine mj_i2l dX10_noShow_36 rfl ?_
  refine mj_lsub dX10_noShow_37 ?_
  refine mj_putf dX10_noShow_38 fgX10_243 (by repeat (first | assumption | exact mup_s _ _ _ | rw [mup_n _ _ (by omega)])) rfl rfl rfl (Nat.le_of_ble_eq_true rfl) rfl ?_
  have z1 := bd7.setX (h' := mup h' (ba + 51 + r) (rdC (nI r) (x_cr (x_out (bX (pB P) r) 2) (qcr (bX (pB P) r) - (bpe (pB P)).toInt64)))) (Y := x_cr (x_out (bX (pB P) r) 2) (qcr (bX (pB P) r) - (bpe (pB P)).toInt64)) (r := r) (by omega) (mup_s _ _ _) (Off.m0 _ (by omega) (by omega))
  have z0 := z1.1
  refine mj_aload_n 0 dX10_noShow_41 rfl ?_
  refine mj_dup dX10_noShow_42 rfl ?_
  refine mj_getf dX10_noShow_43 fgX10_247 (by repeat (first | assumption | exact mup_s _ _ _ | rw [mup_n _ _ (by omega)])) rfl ?_
  refine mj_aload_n 2 dX10_noShow_46 rfl ?_
  refine mj_getf dX10_noShow_47 fgX10_12 (by repeat (first | assumption | exact mup_s _ _ _ | rw [mup_n _ _ (by omega)])) rfl ?_
  refine mj_getf dX10_noShow_50 fgX10_166 (by repeat (first | assumption | exact mup_s _ _ _ | rw [mup_n _ _ (by omega)])) rfl ?_
  refine mj_i2l dX10_noShow_53 rfl ?_
  refine mj_ladd dX10_noShow_54 ?_
  refine mj_putf dX10_noShow_55 fgX10_247 (by repeat (first | assumption | exact mup_s _ _ _ | rw [mup_n _ _ (by omega)])) rfl rfl rfl (Nat.le_of_ble_eq_true rfl) rfl ?_
  have z2 := z1.setD (h' := mup (mup h' (ba + 51 + r) (rdC (nI r) (x_cr (x_out (bX (pB P) r) 2) (qcr (bX (pB P) r) - (bpe (pB P)).toInt64)))) (ba + 3 + 6 * d) (drC (nI d) (ba + 3 + 6 * d) (d_cr (bD (pB P) d) (dcr (bD (pB P) d) + (bpe (pB P)).toInt64)))) (D := d_cr (bD (pB P) d) (dcr (bD (pB P) d) + (bpe (pB P)).toInt64)) (d := d) (by omega) (mup_s _ _ _) (Off.m0 _ (by omega) (by omega))
  have o9 : Off ba (ba + 71) h (mup (mup h' (ba + 51 + r) (rdC (nI r) (x_cr (x_out (bX (pB P) r) 2) (qcr (bX (pB P) r) - (bpe (pB P)).toInt64)))) (ba + 3 + 6 * d) (drC (nI d) (ba + 3 + 6 * d) (d_cr (bD (pB P) d) (dcr (bD (pB P) d) + (bpe (pB P)).toInt64)))) := (o7.m _ (by omega) (by omega)).m _ (by omega) (by omega)
  refine mj_aload_n 0 dX10_noShow_58 rfl ?_
  refine mj_getf dX10_noShow_59 fgX10_95 (by repeat (first | assumption | exact mup_s _ _ _ | rw [mup_n _ _ (by omega)])) rfl ?_
  exact mj_iret dX10_noShow_62 rfl (Nat.le_of_ble_eq_true rfl) (Nat.le_of_ble_eq_true rfl) ⟨T, t2, rfl, rfl, (⟨ba, sa, Sp, S, H, A, V, Kx, x.bd z2 (ins.at fun q h1 h2 => o9 q (by omega)) (pf.at fun q h1 h2 => o9 q (by omega)) (mt.at fun q h1 h2 => o9 q (by omega)) (sh.at fun q h1 h2 => o9 q (by omega)) (Off.to1 (o9.up (by omega) (by omega))), xfc, xfp⟩ : Cp _ n c (p_setB P (b_nosh (pB P) r d T))), o9.toC (by omega) (by omega)⟩
set_option maxRecDepth 100000 in
set_option maxHeartbeats 4000000 in
theorem cn_X10_comeBack_no {K : KX} {n : Nat} {h : MH} {c : Nat} {P : CS} (x : Cp h n c P) {i : Int32} (hi : b_in i 0 (nI (bnr (pB P)) - 1) = false) : Con K mX10_comeBack [.ref c, .int i] 1 6 n h (Thr "java/lang/IndexOutOfBoundsException" n h) := by
  obtain ⟨ba, sa, Sp, S, H, A, V, Kx, x, xfc, xfp⟩ := x
  obtain ⟨c0, bd, sp, sv, ins, pf, mt, sh, tx, rd, ad, nn⟩ := id x
  have b0 := bd.1
  have b5 := bd.2.2.2.2.2.1
  have b6 := bd.2.2.2.2.2.2
  have adr := x.adr
  refine Con.of (by decide +kernel) (Nat.le_of_ble_eq_true rfl) ?_
  refine mj_aload_n 0 dX10_comeBack_0 rfl ?_
  refine mj_getf dX10_comeBack_1 fgX10_12 (by repeat (first | assumption | exact mup_s _ _ _ | rw [mup_n _ _ (by omega)])) rfl ?_
  refine mj_iload_n 1 dX10_comeBack_4 rfl ?_
  exact mj_tV [_] (RX0, TX0, 5) dX10_comeBack_5 cwX0_rider lkX10_152 b0 rfl rfl rfl rfl rfl (cn_X0_rider_no bd hi) ⟨Nat.le_of_ble_eq_true rfl, Nat.le_of_ble_eq_true rfl, Nat.le_of_ble_eq_true rfl, Nat.le_of_ble_eq_true rfl, Nat.le_of_ble_eq_true rfl⟩ (fun n9 h9 q1 q2 => ⟨rfl, q1, q2⟩)
set_option maxRecDepth 100000 in
set_option maxHeartbeats 4000000 in
theorem cn_X10_comeBack_st {K : KX} {n : Nat} {h : MH} {c : Nat} {P : CS} (x : Cp h n c P) {i : Int32} {r : Nat} (hi : i = nI r) (hr : r < bnr (pB P)) (hs : ¬ qst (bX (pB P) r) = 2) : Con K mX10_comeBack [.ref c, .int i] 1 6 n h (Thr "java/lang/IllegalStateException" n h) := by
  obtain ⟨ba, sa, Sp, S, H, A, V, Kx, x, xfc, xfp⟩ := x
  obtain ⟨c0, bd, sp, sv, ins, pf, mt, sh, tx, rd, ad, nn⟩ := id x
  have b0 := bd.1
  have b5 := bd.2.2.2.2.2.1
  have b6 := bd.2.2.2.2.2.2
  have adr := x.adr
  have re := bd.2.2.2.2.1 r (by omega)
  refine Con.of (by decide +kernel) (Nat.le_of_ble_eq_true rfl) ?_
  refine mj_aload_n 0 dX10_comeBack_0 rfl ?_
  refine mj_getf dX10_comeBack_1 fgX10_12 (by repeat (first | assumption | exact mup_s _ _ _ | rw [mup_n _ _ (by omega)])) rfl ?_
  refine mj_iload_n 1 dX10_comeBack_4 rfl ?_
  refine mj_cV1 [_] (RX0, TX0, 5) dX10_comeBack_5 cwX0_rider lkX10_152 (bd.1) rfl rfl rfl rfl (cn_X0_rider bd (j := r) hi hr) ⟨Nat.le_of_ble_eq_true rfl, Nat.le_of_ble_eq_true rfl, Nat.le_of_ble_eq_true rfl, Nat.le_of_ble_eq_true rfl, Nat.le_of_ble_eq_true rfl⟩ (fun h' e' => ?_)
  subst h'
  refine mj_astore_n (ls' := [(2, _), (0, _), (1, _)]) dX10_comeBack_8 (Nat.le_of_ble_eq_true rfl) rfl ?_
  refine mj_aload_n 0 dX10_comeBack_9 rfl ?_
  refine mj_getf dX10_comeBack_10 fgX10_156 (by repeat (first | assumption | exact mup_s _ _ _ | rw [mup_n _ _ (by omega)])) rfl ?_
  refine mj_iconst (v := 2) dX10_comeBack_13 rfl ?_
  refine mj_icmp_eq 27 dX10_comeBack_14 (by decide) (fun c_14 => ?_) (fun c_14 => ?_)
  · exact absurd c_14 hs
  · exact mj_throwS (text := "the rider is not absent") dX10_comeBack_17 dX10_comeBack_20 dX10_comeBack_21 dX10_comeBack_23 dX10_comeBack_26 thX10_80_84 (show (("Carpool", 248, "the rider is not absent") : String × Nat × String) ∈ strK by decide +kernel) rfl (Nat.le_of_ble_eq_true rfl) (Nat.le_of_ble_eq_true rfl) (Nat.le_of_ble_eq_true rfl) (Nat.le_of_ble_eq_true rfl) (fun n9 h9 => ⟨rfl, h9, rfl⟩)
set_option maxRecDepth 100000 in
set_option maxHeartbeats 4000000 in
theorem cn_X10_comeBack {K : KX} {n : Nat} {h : MH} {c : Nat} {P : CS} (x : Cp h n c P) {i : Int32} {r : Nat} (hi : i = nI r) (hr : r < bnr (pB P)) (hs : qst (bX (pB P) r) = 2) : Con K mX10_comeBack [.ref c, .int i] 0 0 n h (RetP (some (.long (qcr (bX (pB P) r)))) n (fun h' => CpE h h' n c (p_setB P (b_setX (pB P) r (x_st (bX (pB P) r) 0))))) := by
  obtain ⟨ba, sa, Sp, S, H, A, V, Kx, x, xfc, xfp⟩ := x
  obtain ⟨c0, bd, sp, sv, ins, pf, mt, sh, tx, rd, ad, nn⟩ := id x
  have b0 := bd.1
  have b5 := bd.2.2.2.2.2.1
  have b6 := bd.2.2.2.2.2.2
  have adr := x.adr
  have re := bd.2.2.2.2.1 r (by omega)
  refine Con.of (by decide +kernel) (Nat.le_of_ble_eq_true rfl) ?_
  refine mj_aload_n 0 dX10_comeBack_0 rfl ?_
  refine mj_getf dX10_comeBack_1 fgX10_12 (by repeat (first | assumption | exact mup_s _ _ _ | rw [mup_n _ _ (by omega)])) rfl ?_
  refine mj_iload_n 1 dX10_comeBack_4 rfl ?_
  refine mj_cV1 [_] (RX0, TX0, 5) dX10_comeBack_5 cwX0_rider lkX10_152 (bd.1) rfl rfl rfl rfl (cn_X0_rider bd (j := r) hi hr) ⟨Nat.le_of_ble_eq_true rfl, Nat.le_of_ble_eq_true rfl, Nat.le_of_ble_eq_true rfl, Nat.le_of_ble_eq_true rfl, Nat.le_of_ble_eq_true rfl⟩ (fun h' e' => ?_)
  subst h'
  refine mj_astore_n (ls' := [(2, _), (0, _), (1, _)]) dX10_comeBack_8 (Nat.le_of_ble_eq_true rfl) rfl ?_
  refine mj_aload_n 0 dX10_comeBack_9 rfl ?_
  refine mj_getf dX10_comeBack_10 fgX10_156 (by repeat (first | assumption | exact mup_s _ _ _ | rw [mup_n _ _ (by omega)])) rfl ?_
  refine mj_iconst (v := 2) dX10_comeBack_13 rfl ?_
  refine mj_icmp_eq 27 dX10_comeBack_14 (by decide) (fun c_14 => ?_) (fun c_14 => ?_)
  · refine mj_aload_n 0 dX10_comeBack_27 rfl ?_
    refine mj_iconst (v := 0) dX10_comeBack_28 rfl ?_
    refine mj_putf dX10_comeBack_29 fgX10_156 (by repeat (first | assumption | exact mup_s _ _ _ | rw [mup_n _ _ (by omega)])) rfl rfl rfl (Nat.le_of_ble_eq_true rfl) rfl ?_
    have z1 := bd.setX (h' := mup h (ba + 51 + r) (rdC (nI r) (x_st (bX (pB P) r) 0))) (Y := x_st (bX (pB P) r) 0) (r := r) (by omega) (mup_s _ _ _) (Off.m0 _ (by omega) (by omega))
    have o9 : Off ba (ba + 71) h (mup h (ba + 51 + r) (rdC (nI r) (x_st (bX (pB P) r) 0))) := Off.m0 _ (by omega) (by omega)
    refine mj_aload_n 0 dX10_comeBack_32 rfl ?_
    refine mj_getf dX10_comeBack_33 fgX10_243 (by repeat (first | assumption | exact mup_s _ _ _ | rw [mup_n _ _ (by omega)])) rfl ?_
    exact mj_lret dX10_comeBack_36 rfl (Nat.le_of_ble_eq_true rfl) (Nat.le_of_ble_eq_true rfl) ⟨rfl, rfl, ⟨(⟨ba, sa, Sp, S, H, A, V, Kx, x.bd z1 (ins.at fun q h1 h2 => o9 q (by omega)) (pf.at fun q h1 h2 => o9 q (by omega)) (mt.at fun q h1 h2 => o9 q (by omega)) (sh.at fun q h1 h2 => o9 q (by omega)) (Off.to1 (o9.up (by omega) (by omega))), xfc, xfp⟩ : Cp _ n c (p_setB P (b_setX (pB P) r (x_st (bX (pB P) r) 0)))), o9.toC (by omega) (by omega)⟩⟩
  · exact absurd hs c_14
set_option maxRecDepth 100000 in
set_option maxHeartbeats 4000000 in
theorem cn_X10_pay_no {K : KX} {n : Nat} {h : MH} {c : Nat} {P : CS} (x : Cp h n c P) {i : Int32} (hi : b_in i 0 (nI (bnr (pB P)) - 1) = false) {v : Int32} : Con K mX10_pay [.ref c, .int i, .int v] 1 6 n h (Thr "java/lang/IndexOutOfBoundsException" n h) := by
  obtain ⟨ba, sa, Sp, S, H, A, V, Kx, x, xfc, xfp⟩ := x
  obtain ⟨c0, bd, sp, sv, ins, pf, mt, sh, tx, rd, ad, nn⟩ := id x
  have b0 := bd.1
  have b5 := bd.2.2.2.2.2.1
  have b6 := bd.2.2.2.2.2.2
  have adr := x.adr
  refine Con.of (by decide +kernel) (Nat.le_of_ble_eq_true rfl) ?_
  refine mj_aload_n 0 dX10_pay_0 rfl ?_
  refine mj_getf dX10_pay_1 fgX10_12 (by repeat (first | assumption | exact mup_s _ _ _ | rw [mup_n _ _ (by omega)])) rfl ?_
  refine mj_iload_n 1 dX10_pay_4 rfl ?_
  exact mj_tV [_] (RX0, TX0, 5) dX10_pay_5 cwX0_rider lkX10_152 b0 rfl rfl rfl rfl rfl (cn_X0_rider_no bd hi) ⟨Nat.le_of_ble_eq_true rfl, Nat.le_of_ble_eq_true rfl, Nat.le_of_ble_eq_true rfl, Nat.le_of_ble_eq_true rfl, Nat.le_of_ble_eq_true rfl⟩ (fun n9 h9 q1 q2 => ⟨rfl, q1, q2⟩)
set_option maxRecDepth 100000 in
set_option maxHeartbeats 4000000 in
theorem cn_X10_pay_arg {K : KX} {n : Nat} {h : MH} {c : Nat} {P : CS} (x : Cp h n c P) {i : Int32} {r : Nat} (hi : i = nI r) (hr : r < bnr (pB P)) {v : Int32} (hb : b_in v (-9999) 9999 = false) : Con K mX10_pay [.ref c, .int i, .int v] 1 6 n h (Thr "java/lang/IllegalArgumentException" n h) := by
  obtain ⟨ba, sa, Sp, S, H, A, V, Kx, x, xfc, xfp⟩ := x
  obtain ⟨c0, bd, sp, sv, ins, pf, mt, sh, tx, rd, ad, nn⟩ := id x
  have b0 := bd.1
  have b5 := bd.2.2.2.2.2.1
  have b6 := bd.2.2.2.2.2.2
  have adr := x.adr
  have re := bd.2.2.2.2.1 r (by omega)
  refine Con.of (by decide +kernel) (Nat.le_of_ble_eq_true rfl) ?_
  refine mj_aload_n 0 dX10_pay_0 rfl ?_
  refine mj_getf dX10_pay_1 fgX10_12 (by repeat (first | assumption | exact mup_s _ _ _ | rw [mup_n _ _ (by omega)])) rfl ?_
  refine mj_iload_n 1 dX10_pay_4 rfl ?_
  refine mj_cV1 [_] (RX0, TX0, 5) dX10_pay_5 cwX0_rider lkX10_152 (bd.1) rfl rfl rfl rfl (cn_X0_rider bd (j := r) hi hr) ⟨Nat.le_of_ble_eq_true rfl, Nat.le_of_ble_eq_true rfl, Nat.le_of_ble_eq_true rfl, Nat.le_of_ble_eq_true rfl, Nat.le_of_ble_eq_true rfl⟩ (fun h' e' => ?_)
  subst h'
  refine mj_astore_n (ls' := [(3, _), (0, _), (1, _), (2, _)]) dX10_pay_8 (Nat.le_of_ble_eq_true rfl) rfl ?_
  refine mj_iload_n 3 dX10_pay_9 rfl ?_
  refine mj_sipush (v := (-9999)) dX10_pay_10 rfl ?_
  refine mj_sipush (v := (9999)) dX10_pay_13 rfl ?_
  refine mj_cS1 [_, _, _] dX10_pay_16 cwX10_isWithin lkX10_65 rfl (cn_X10_isWithin _ _ _) ⟨Nat.le_of_ble_eq_true rfl, Nat.le_of_ble_eq_true rfl, Nat.le_of_ble_eq_true rfl, Nat.le_of_ble_eq_true rfl, Nat.le_of_ble_eq_true rfl⟩ (fun h' e' => ?_)
  subst h'
  refine mj_if_ne 33 dX10_pay_19 (by decide) (fun c_19 => ?_) (fun c_19 => ?_)
  · exact absurd (hb.symm.trans (bI_n0.mp c_19)) (by decide)
  · exact mj_throwSW (text := "the amount is out of range") dX10_pay_22 dX10_pay_25 dX10_pay_26 dX10_pay_29 dX10_pay_32 thX10_69_73 (show (("Carpool", 272, "the amount is out of range") : String × Nat × String) ∈ strK by decide +kernel) rfl (Nat.le_of_ble_eq_true rfl) (Nat.le_of_ble_eq_true rfl) (Nat.le_of_ble_eq_true rfl) (Nat.le_of_ble_eq_true rfl) (fun n9 h9 => ⟨rfl, h9, rfl⟩)
set_option maxRecDepth 100000 in
set_option maxHeartbeats 4000000 in
theorem cn_X10_pay {K : KX} {n : Nat} {h : MH} {c : Nat} {P : CS} (x : Cp h n c P) {i : Int32} {r : Nat} (hi : i = nI r) (hr : r < bnr (pB P)) {v : Int32} (hb : b_in v (-9999) 9999 = true) : Con K mX10_pay [.ref c, .int i, .int v] 0 0 n h (RetP (some (.long (qcr (bX (pB P) r) + v.toInt64))) n (fun h' => CpE h h' n c (p_setB P (b_setX (pB P) r (x_cr (bX (pB P) r) (qcr (bX (pB P) r) + v.toInt64)))))) := by
  obtain ⟨ba, sa, Sp, S, H, A, V, Kx, x, xfc, xfp⟩ := x
  obtain ⟨c0, bd, sp, sv, ins, pf, mt, sh, tx, rd, ad, nn⟩ := id x
  have b0 := bd.1
  have b5 := bd.2.2.2.2.2.1
  have b6 := bd.2.2.2.2.2.2
  have adr := x.adr
  have re := bd.2.2.2.2.1 r (by omega)
  refine Con.of (by decide +kernel) (Nat.le_of_ble_eq_true rfl) ?_
  refine mj_aload_n 0 dX10_pay_0 rfl ?_
  refine mj_getf dX10_pay_1 fgX10_12 (by repeat (first | assumption | exact mup_s _ _ _ | rw [mup_n _ _ (by omega)])) rfl ?_
  refine mj_iload_n 1 dX10_pay_4 rfl ?_
  refine mj_cV1 [_] (RX0, TX0, 5) dX10_pay_5 cwX0_rider lkX10_152 (bd.1) rfl rfl rfl rfl (cn_X0_rider bd (j := r) hi hr) ⟨Nat.le_of_ble_eq_true rfl, Nat.le_of_ble_eq_true rfl, Nat.le_of_ble_eq_true rfl, Nat.le_of_ble_eq_true rfl, Nat.le_of_ble_eq_true rfl⟩ (fun h' e' => ?_)
  subst h'
  refine mj_astore_n (ls' := [(3, _), (0, _), (1, _), (2, _)]) dX10_pay_8 (Nat.le_of_ble_eq_true rfl) rfl ?_
  refine mj_iload_n 3 dX10_pay_9 rfl ?_
  refine mj_sipush (v := (-9999)) dX10_pay_10 rfl ?_
  refine mj_sipush (v := (9999)) dX10_pay_13 rfl ?_
  refine mj_cS1 [_, _, _] dX10_pay_16 cwX10_isWithin lkX10_65 rfl (cn_X10_isWithin _ _ _) ⟨Nat.le_of_ble_eq_true rfl, Nat.le_of_ble_eq_true rfl, Nat.le_of_ble_eq_true rfl, Nat.le_of_ble_eq_true rfl, Nat.le_of_ble_eq_true rfl⟩ (fun h' e' => ?_)
  subst h'
  refine mj_if_ne 33 dX10_pay_19 (by decide) (fun c_19 => ?_) (fun c_19 => ?_)
  · refine mj_aload_n 0 dX10_pay_33 rfl ?_
    refine mj_dup dX10_pay_34 rfl ?_
    refine mj_getf dX10_pay_35 fgX10_243 (by repeat (first | assumption | exact mup_s _ _ _ | rw [mup_n _ _ (by omega)])) rfl ?_
    refine mj_iload_n 3 dX10_pay_38 rfl ?_
    refine mj_i2l dX10_pay_39 rfl ?_
    refine mj_ladd dX10_pay_40 ?_
    refine mj_putf dX10_pay_41 fgX10_243 (by repeat (first | assumption | exact mup_s _ _ _ | rw [mup_n _ _ (by omega)])) rfl rfl rfl (Nat.le_of_ble_eq_true rfl) rfl ?_
    have z1 := bd.setX (h' := mup h (ba + 51 + r) (rdC (nI r) (x_cr (bX (pB P) r) (qcr (bX (pB P) r) + v.toInt64)))) (Y := x_cr (bX (pB P) r) (qcr (bX (pB P) r) + v.toInt64)) (r := r) (by omega) (mup_s _ _ _) (Off.m0 _ (by omega) (by omega))
    have o9 : Off ba (ba + 71) h (mup h (ba + 51 + r) (rdC (nI r) (x_cr (bX (pB P) r) (qcr (bX (pB P) r) + v.toInt64)))) := Off.m0 _ (by omega) (by omega)
    refine mj_aload_n 0 dX10_pay_44 rfl ?_
    refine mj_getf dX10_pay_45 fgX10_243 (by repeat (first | assumption | exact mup_s _ _ _ | rw [mup_n _ _ (by omega)])) rfl ?_
    exact mj_lret dX10_pay_48 rfl (Nat.le_of_ble_eq_true rfl) (Nat.le_of_ble_eq_true rfl) ⟨rfl, rfl, ⟨(⟨ba, sa, Sp, S, H, A, V, Kx, x.bd z1 (ins.at fun q h1 h2 => o9 q (by omega)) (pf.at fun q h1 h2 => o9 q (by omega)) (mt.at fun q h1 h2 => o9 q (by omega)) (sh.at fun q h1 h2 => o9 q (by omega)) (Off.to1 (o9.up (by omega) (by omega))), xfc, xfp⟩ : Cp _ n c (p_setB P (b_setX (pB P) r (x_cr (bX (pB P) r) (qcr (bX (pB P) r) + v.toInt64))))), o9.toC (by omega) (by omega)⟩⟩
  · exact absurd (hb.symm.trans (bI_0.mp c_19)) (by decide)
set_option maxRecDepth 100000 in
set_option maxHeartbeats 4000000 in
theorem cn_X10_marginal_no {K : KX} {n : Nat} {h : MH} {c : Nat} {P : CS} (x : Cp h n c P) {i : Int32} (hi : b_in i 0 (nI (bnr (pB P)) - 1) = false) : Con K mX10_marginal [.ref c, .int i] 1 6 n h (Thr "java/lang/IndexOutOfBoundsException" n h) := by
  obtain ⟨ba, sa, Sp, S, H, A, V, Kx, x, xfc, xfp⟩ := x
  obtain ⟨c0, bd, sp, sv, ins, pf, mt, sh, tx, rd, ad, nn⟩ := id x
  have b0 := bd.1
  have b5 := bd.2.2.2.2.2.1
  have b6 := bd.2.2.2.2.2.2
  have adr := x.adr
  refine Con.of (by decide +kernel) (Nat.le_of_ble_eq_true rfl) ?_
  refine mj_aload_n 0 dX10_marginal_0 rfl ?_
  refine mj_getf dX10_marginal_1 fgX10_12 (by repeat (first | assumption | exact mup_s _ _ _ | rw [mup_n _ _ (by omega)])) rfl ?_
  refine mj_iload_n 1 dX10_marginal_4 rfl ?_
  exact mj_tV [_] (RX0, TX0, 5) dX10_marginal_5 cwX0_rider lkX10_152 b0 rfl rfl rfl rfl rfl (cn_X0_rider_no bd hi) ⟨Nat.le_of_ble_eq_true rfl, Nat.le_of_ble_eq_true rfl, Nat.le_of_ble_eq_true rfl, Nat.le_of_ble_eq_true rfl, Nat.le_of_ble_eq_true rfl⟩ (fun n9 h9 q1 q2 => ⟨rfl, q1, q2⟩)
set_option maxRecDepth 100000 in
set_option maxHeartbeats 4000000 in
theorem cn_X10_marginal_none {K : KX} {n : Nat} {h : MH} {c : Nat} {P : CS} (x : Cp h n c P) {i : Int32} {r : Nat} (hi : i = nI r) (hr : r < bnr (pB P)) (hq : qdr (bX (pB P) r) = -1) : Con K mX10_marginal [.ref c, .int i] 0 0 n h (Ret (some (.int (-1))) n h) := by
  obtain ⟨ba, sa, Sp, S, H, A, V, Kx, x, xfc, xfp⟩ := x
  obtain ⟨c0, bd, sp, sv, ins, pf, mt, sh, tx, rd, ad, nn⟩ := id x
  have b0 := bd.1
  have b5 := bd.2.2.2.2.2.1
  have b6 := bd.2.2.2.2.2.2
  have adr := x.adr
  have re := bd.2.2.2.2.1 r (by omega)
  refine Con.of (by decide +kernel) (Nat.le_of_ble_eq_true rfl) ?_
  refine mj_aload_n 0 dX10_marginal_0 rfl ?_
  refine mj_getf dX10_marginal_1 fgX10_12 (by repeat (first | assumption | exact mup_s _ _ _ | rw [mup_n _ _ (by omega)])) rfl ?_
  refine mj_iload_n 1 dX10_marginal_4 rfl ?_
  refine mj_cV1 [_] (RX0, TX0, 5) dX10_marginal_5 cwX0_rider lkX10_152 (bd.1) rfl rfl rfl rfl (cn_X0_rider bd (j := r) hi hr) ⟨Nat.le_of_ble_eq_true rfl, Nat.le_of_ble_eq_true rfl, Nat.le_of_ble_eq_true rfl, Nat.le_of_ble_eq_true rfl, Nat.le_of_ble_eq_true rfl⟩ (fun h' e' => ?_)
  subst h'
  refine mj_astore_n (ls' := [(2, _), (0, _), (1, _)]) dX10_marginal_8 (Nat.le_of_ble_eq_true rfl) rfl ?_
  refine mj_aload_n 0 dX10_marginal_9 rfl ?_
  refine mj_getf dX10_marginal_10 fgX10_159 (by repeat (first | assumption | exact mup_s _ _ _ | rw [mup_n _ _ (by omega)])) rfl ?_
  refine mj_iconst (v := (-1)) dX10_marginal_13 rfl ?_
  refine mj_icmp_ne 19 dX10_marginal_14 (by decide) (fun c_14 => ?_) (fun c_14 => ?_)
  · exact absurd hq c_14
  · refine mj_iconst (v := (-1)) dX10_marginal_17 rfl ?_
    exact mj_iret dX10_marginal_18 rfl (Nat.le_of_ble_eq_true rfl) (Nat.le_of_ble_eq_true rfl) ⟨rfl, rfl, rfl⟩
set_option maxRecDepth 100000 in
set_option maxHeartbeats 4000000 in
theorem cn_X10_marginal {K : KX} {n : Nat} {h : MH} {c : Nat} {P : CS} (x : Cp h n c P) {i : Int32} {r : Nat} (hi : i = nI r) (hr : r < bnr (pB P)) {d : Nat} (hd : d < bnd (pB P)) (hq : qdr (bX (pB P) r) = nI d) (ht : 2 ≤ rn (bT (pB P) d)) : Con K mX10_marginal [.ref c, .int i] 0 0 n h (Ret (some (.int (r_marg (bT (pB P) d) (nI r)))) n h) := by
  obtain ⟨ba, sa, Sp, S, H, A, V, Kx, x, xfc, xfp⟩ := x
  obtain ⟨c0, bd, sp, sv, ins, pf, mt, sh, tx, rd, ad, nn⟩ := id x
  have b0 := bd.1
  have b5 := bd.2.2.2.2.2.1
  have b6 := bd.2.2.2.2.2.2
  have adr := x.adr
  obtain ⟨de, dt⟩ := bd.2.2.2.1 d (by omega)
  have dt0 := dt.1
  have re := bd.2.2.2.2.1 r (by omega)
  refine Con.of (by decide +kernel) (Nat.le_of_ble_eq_true rfl) ?_
  refine mj_aload_n 0 dX10_marginal_0 rfl ?_
  refine mj_getf dX10_marginal_1 fgX10_12 (by repeat (first | assumption | exact mup_s _ _ _ | rw [mup_n _ _ (by omega)])) rfl ?_
  refine mj_iload_n 1 dX10_marginal_4 rfl ?_
  refine mj_cV1 [_] (RX0, TX0, 5) dX10_marginal_5 cwX0_rider lkX10_152 (bd.1) rfl rfl rfl rfl (cn_X0_rider bd (j := r) hi hr) ⟨Nat.le_of_ble_eq_true rfl, Nat.le_of_ble_eq_true rfl, Nat.le_of_ble_eq_true rfl, Nat.le_of_ble_eq_true rfl, Nat.le_of_ble_eq_true rfl⟩ (fun h' e' => ?_)
  subst h'
  refine mj_astore_n (ls' := [(2, _), (0, _), (1, _)]) dX10_marginal_8 (Nat.le_of_ble_eq_true rfl) rfl ?_
  refine mj_aload_n 0 dX10_marginal_9 rfl ?_
  refine mj_getf dX10_marginal_10 fgX10_159 (by repeat (first | assumption | exact mup_s _ _ _ | rw [mup_n _ _ (by omega)])) rfl ?_
  refine mj_iconst (v := (-1)) dX10_marginal_13 rfl ?_
  refine mj_icmp_ne 19 dX10_marginal_14 (by decide) (fun c_14 => ?_) (fun c_14 => ?_)
  · refine mj_aload_n 1 dX10_marginal_19 rfl ?_
    refine mj_getf dX10_marginal_20 fgX10_12 (by repeat (first | assumption | exact mup_s _ _ _ | rw [mup_n _ _ (by omega)])) rfl ?_
    refine mj_aload_n 0 dX10_marginal_23 rfl ?_
    refine mj_getf dX10_marginal_24 fgX10_159 (by repeat (first | assumption | exact mup_s _ _ _ | rw [mup_n _ _ (by omega)])) rfl ?_
    refine mj_cV1 [_] (RX0, TX0, 5) dX10_marginal_27 cwX0_driver lkX10_99 (bd.1) rfl rfl rfl rfl (cn_X0_driver bd (j := d) hq hd) ⟨Nat.le_of_ble_eq_true rfl, Nat.le_of_ble_eq_true rfl, Nat.le_of_ble_eq_true rfl, Nat.le_of_ble_eq_true rfl, Nat.le_of_ble_eq_true rfl⟩ (fun h' e' => ?_)
    subst h'
    refine mj_getf dX10_marginal_30 fgX10_113 (by repeat (first | assumption | exact mup_s _ _ _ | rw [mup_n _ _ (by omega)])) rfl ?_
    refine mj_aload_n 0 dX10_marginal_33 rfl ?_
    refine mj_getf dX10_marginal_34 fgX10_146 (by repeat (first | assumption | exact mup_s _ _ _ | rw [mup_n _ _ (by omega)])) rfl ?_
    refine mj_cV1 [_] (RX6, TX6, 5) dX10_marginal_37 cwX6_marginalLength lkX10_256 dt0 rfl rfl rfl rfl (cn_X6_marginalLength dt (by omega)) ⟨Nat.le_of_ble_eq_true rfl, Nat.le_of_ble_eq_true rfl, Nat.le_of_ble_eq_true rfl, Nat.le_of_ble_eq_true rfl, Nat.le_of_ble_eq_true rfl⟩ (fun h' e' => ?_)
    subst h'
    exact mj_iret dX10_marginal_40 rfl (Nat.le_of_ble_eq_true rfl) (Nat.le_of_ble_eq_true rfl) ⟨rfl, rfl, rfl⟩
  · exact absurd c_14 (fun z => by have q := hq.symm.trans z; have q2 := congrArg Int32.toInt q; rw [ixn (by omega)] at q2; have q3 : (-1 : Int32).toInt = -1 := rfl; omega)
/-- what the division gives a rider, and the driver -/
def b_shr (B : BS) (d r : Nat) : Int32 := vo (v_div (fun _ => 0, fun _ => 0, fun _ => 0, 0) (bT B d) (dra (bD B d))) r
def b_shd (B : BS) (d : Nat) : Int32 := vd (v_div (fun _ => 0, fun _ => 0, fun _ => 0, 0) (bT B d) (dra (bD B d)))
-- the division doesn't look at what stood there
def Ag (f g : Nat → Int32) (k : Nat) : Prop := ∀ j, j < k → f j = g j
theorem Ag.u1 {f g : Nat → Int32} {k : Nat} (a : Ag f g k) (v : Int32) : Ag (upd f k v) (upd g k v) (k + 1) := by
  intro j hj
  unfold upd
  by_cases e : j = k
  · rw [if_pos e, if_pos e]
  · rw [if_neg e, if_neg e]; exact a j (by omega)
theorem Ag.u2 {f g : Nat → Int32} {k : Nat} (a : Ag f g k) (j : Nat) (v : Int32) : Ag (upd f j v) (upd g j v) k := by
  intro i hi
  unfold upd
  by_cases e : i = j
  · rw [if_pos e, if_pos e]
  · rw [if_neg e, if_neg e]; exact a i hi
theorem v_bs_ag (m each l0 : Int32) (O O' : Nat → Int32) : ∀ k, Ag (v_bs m each l0 O k).1 (v_bs m each l0 O' k).1 k ∧ (v_bs m each l0 O k).2 = (v_bs m each l0 O' k).2
  | 0 => ⟨fun j hj => absurd hj (by omega), rfl⟩
  | k + 1 => by
    obtain ⟨a, b⟩ := v_bs_ag m each l0 O O' k
    unfold v_bs
    rw [b]
    split
    · exact ⟨(a.u1 0).u2 k _, rfl⟩
    · exact ⟨a.u1 0, rfl⟩
theorem v_ws_ag (m : Int32) (R : RS) (W W' : Nat → Int32) : ∀ k, Ag (v_ws m R W k).1 (v_ws m R W' k).1 k ∧ (v_ws m R W k).2 = (v_ws m R W' k).2
  | 0 => ⟨fun j hj => absurd hj (by omega), rfl⟩
  | k + 1 => by
    obtain ⟨a, b⟩ := v_ws_ag m R W W' k
    unfold v_ws
    rw [b]
    exact ⟨a.u1 _, rfl⟩
theorem v_w1_ag (m : Int32) (W W' : Nat → Int32) : ∀ k, Ag (v_w1 m W k) (v_w1 m W' k) k
  | 0 => fun j hj => absurd hj (by omega)
  | k + 1 => (v_w1_ag m W W' k).u1 _
theorem v_wgt_ag (m : Int32) (R : RS) (W W' : Nat → Int32) : Ag (v_wgt m R W).1 (v_wgt m R W').1 20 ∧ (v_wgt m R W).2 = (v_wgt m R W').2 := by
  have a := v_ws_ag m R W W' 20
  unfold v_wgt
  rw [a.2]
  split
  · exact a
  · exact ⟨v_w1_ag m _ _ 20, rfl⟩
theorem v_rs_ag (m rest sum : Int32) {W W' O O' : Nat → Int32} (F F' : Nat → Int32) (hw : Ag W W' 20) (ho : Ag O O' 20) : ∀ k, k ≤ 20 → Ag (v_rs m rest sum W O F k).1 (v_rs m rest sum W' O' F' k).1 20 ∧ Ag (v_rs m rest sum W O F k).2.1 (v_rs m rest sum W' O' F' k).2.1 k ∧ (v_rs m rest sum W O F k).2.2 = (v_rs m rest sum W' O' F' k).2.2
  | 0, _ => ⟨ho, fun j hj => absurd hj (by omega), rfl⟩
  | k + 1, h => by
    obtain ⟨a, b, d⟩ := v_rs_ag m rest sum F F' hw ho k (by omega)
    unfold v_rs
    rw [d, hw k (by omega), a k (by omega)]
    exact ⟨a.u2 k _, b.u1 _, rfl⟩
theorem v_am_ag {F F' : Nat → Int32} (h : Ag F F' 20) : ∀ k, k < 20 → v_am F k = v_am F' k
  | 0, _ => rfl
  | k + 1, hk => by
    have ih := v_am_ag h k (by omega)
    have hl := v_am_le F' k
    unfold v_am
    rw [ih, h (k + 1) (by omega), h (v_am F' k) (by omega)]
theorem v_cents_ag {O O' F F' : Nat → Int32} (ho : Ag O O' 20) (hf : Ag F F' 20) : ∀ k, Ag (v_cents (O, F) k).1 (v_cents (O', F') k).1 20 ∧ Ag (v_cents (O, F) k).2 (v_cents (O', F') k).2 20
  | 0 => ⟨ho, hf⟩
  | k + 1 => by
    obtain ⟨a, b⟩ := v_cents_ag ho hf k
    have e := v_am_ag b 19 (by omega)
    have hl := v_am_le (v_cents (O', F') k).2 19
    unfold v_cents v_cent
    rw [e, a _ (show v_am (v_cents (O', F') k).2 19 < 20 by omega)]
    exact ⟨a.u2 _ _, b.u2 _ _⟩
theorem v_base_ag (V V' : VS) (m b : Int32) : Ag (vo (v_base V m b)) (vo (v_base V' m b)) 20 ∧ vd (v_base V m b) = vd (v_base V' m b) := by
  have a := (v_bs_ag m (v_each m b) (v_left m b + -1) (vo V) (vo V') 20).1
  unfold v_base
  generalize v_bs m (v_each m b) (v_left m b + -1) (vo V) 20 = X at a ⊢
  generalize v_bs m (v_each m b) (v_left m b + -1) (vo V') 20 = Y at a ⊢
  exact ⟨a, rfl⟩
theorem v_rest_ag {V V' : VS} (ho : Ag (vo V) (vo V') 20) (hw : Ag (vw V) (vw V') 20) (hd : vd V = vd V') (m rest sum : Int32) : Ag (vo (v_rest V m rest sum)) (vo (v_rest V' m rest sum)) 20 ∧ vd (v_rest V m rest sum) = vd (v_rest V' m rest sum) := by
  have rs := v_rs_ag m rest sum (vf V) (vf V') hw ho 20 (Nat.le_refl _)
  unfold v_rest
  by_cases hs : 0 < sum
  · rw [if_pos hs, if_pos hs]
    generalize v_rs m rest sum (vw V) (vo V) (vf V) 20 = X at rs ⊢
    generalize v_rs m rest sum (vw V') (vo V') (vf V') 20 = Y at rs ⊢
    rw [rs.2.2]
    generalize Y.2.2.toInt.toNat = k
    exact ⟨(v_cents_ag rs.1 rs.2.1 k).1, hd⟩
  · rw [if_neg hs, if_neg hs]
    exact ⟨ho, hd⟩
theorem v_div_ag (V V' : VS) (R : RS) (ra : Int32) : Ag (vo (v_div V R ra)) (vo (v_div V' R ra)) 20 ∧ vd (v_div V R ra) = vd (v_div V' R ra) := by
  have a := v_base_ag V V' (r_mask R) (r_dir R * ra)
  have w := v_wgt_ag (r_mask R) R (vw V) (vw V')
  unfold v_div
  rw [w.2]
  generalize v_base V (r_mask R) (r_dir R * ra) = X at a ⊢
  generalize v_base V' (r_mask R) (r_dir R * ra) = Y at a ⊢
  generalize v_wgt (r_mask R) R (vw V) = Z at w ⊢
  generalize v_wgt (r_mask R) R (vw V') = Z' at w ⊢
  exact v_rest_ag (V := (vo X, Z.1, vf V, vd X)) (V' := (vo Y, Z'.1, vf V', vd Y)) a.1 w.1 a.2 _ _ _
set_option maxRecDepth 100000 in
set_option maxHeartbeats 4000000 in
theorem cn_X10_share_no {K : KX} {n : Nat} {h : MH} {c : Nat} {P : CS} (x : Cp h n c P) {i : Int32} (hi : b_in i 0 (nI (bnr (pB P)) - 1) = false) : Con K mX10_share [.ref c, .int i] 1 6 n h (Thr "java/lang/IndexOutOfBoundsException" n h) := by
  obtain ⟨ba, sa, Sp, S, H, A, V, Kx, x, xfc, xfp⟩ := x
  obtain ⟨c0, bd, sp, sv, ins, pf, mt, sh, tx, rd, ad, nn⟩ := id x
  have b0 := bd.1
  have b5 := bd.2.2.2.2.2.1
  have b6 := bd.2.2.2.2.2.2
  have adr := x.adr
  refine Con.of (by decide +kernel) (Nat.le_of_ble_eq_true rfl) ?_
  refine mj_aload_n 0 dX10_share_0 rfl ?_
  refine mj_getf dX10_share_1 fgX10_12 (by repeat (first | assumption | exact mup_s _ _ _ | rw [mup_n _ _ (by omega)])) rfl ?_
  refine mj_iload_n 1 dX10_share_4 rfl ?_
  exact mj_tV [_] (RX0, TX0, 5) dX10_share_5 cwX0_rider lkX10_152 b0 rfl rfl rfl rfl rfl (cn_X0_rider_no bd hi) ⟨Nat.le_of_ble_eq_true rfl, Nat.le_of_ble_eq_true rfl, Nat.le_of_ble_eq_true rfl, Nat.le_of_ble_eq_true rfl, Nat.le_of_ble_eq_true rfl⟩ (fun n9 h9 q1 q2 => ⟨rfl, q1, q2⟩)
set_option maxRecDepth 100000 in
set_option maxHeartbeats 4000000 in
theorem cn_X10_share_none {K : KX} {n : Nat} {h : MH} {c : Nat} {P : CS} (x : Cp h n c P) {i : Int32} {r : Nat} (hi : i = nI r) (hr : r < bnr (pB P)) (hq : qdr (bX (pB P) r) = -1) : Con K mX10_share [.ref c, .int i] 0 0 n h (Ret (some (.int (-1))) n h) := by
  obtain ⟨ba, sa, Sp, S, H, A, V, Kx, x, xfc, xfp⟩ := x
  obtain ⟨c0, bd, sp, sv, ins, pf, mt, sh, tx, rd, ad, nn⟩ := id x
  have b0 := bd.1
  have b5 := bd.2.2.2.2.2.1
  have b6 := bd.2.2.2.2.2.2
  have adr := x.adr
  have re := bd.2.2.2.2.1 r (by omega)
  refine Con.of (by decide +kernel) (Nat.le_of_ble_eq_true rfl) ?_
  refine mj_aload_n 0 dX10_share_0 rfl ?_
  refine mj_getf dX10_share_1 fgX10_12 (by repeat (first | assumption | exact mup_s _ _ _ | rw [mup_n _ _ (by omega)])) rfl ?_
  refine mj_iload_n 1 dX10_share_4 rfl ?_
  refine mj_cV1 [_] (RX0, TX0, 5) dX10_share_5 cwX0_rider lkX10_152 (bd.1) rfl rfl rfl rfl (cn_X0_rider bd (j := r) hi hr) ⟨Nat.le_of_ble_eq_true rfl, Nat.le_of_ble_eq_true rfl, Nat.le_of_ble_eq_true rfl, Nat.le_of_ble_eq_true rfl, Nat.le_of_ble_eq_true rfl⟩ (fun h' e' => ?_)
  subst h'
  refine mj_astore_n (ls' := [(2, _), (0, _), (1, _)]) dX10_share_8 (Nat.le_of_ble_eq_true rfl) rfl ?_
  refine mj_aload_n 0 dX10_share_9 rfl ?_
  refine mj_getf dX10_share_10 fgX10_159 (by repeat (first | assumption | exact mup_s _ _ _ | rw [mup_n _ _ (by omega)])) rfl ?_
  refine mj_iconst (v := (-1)) dX10_share_13 rfl ?_
  refine mj_icmp_ne 19 dX10_share_14 (by decide) (fun c_14 => ?_) (fun c_14 => ?_)
  · exact absurd hq c_14
  · refine mj_iconst (v := (-1)) dX10_share_17 rfl ?_
    exact mj_iret dX10_share_18 rfl (Nat.le_of_ble_eq_true rfl) (Nat.le_of_ble_eq_true rfl) ⟨rfl, rfl, rfl⟩
set_option maxRecDepth 100000 in
set_option maxHeartbeats 4000000 in
theorem cn_X10_share {K : KX} {n : Nat} {h : MH} {c : Nat} {P : CS} (x : Cp h n c P) {i : Int32} {r : Nat} (hi : i = nI r) (hr : r < bnr (pB P)) {d : Nat} (hd : d < bnd (pB P)) (hq : qdr (bX (pB P) r) = nI d) (ht : 2 ≤ rn (bT (pB P) d)) : Con K mX10_share [.ref c, .int i] 0 0 n h (RetP (some (.int (b_shr (pB P) d r))) n (fun h' => CpE h h' n c P)) := by
  obtain ⟨ba, sa, Sp, S, H, A, V, Kx, x, xfc, xfp⟩ := x
  obtain ⟨c0, bd, sp, sv, ins, pf, mt, sh, tx, rd, ad, nn⟩ := id x
  have b0 := bd.1
  have b5 := bd.2.2.2.2.2.1
  have b6 := bd.2.2.2.2.2.2
  have adr := x.adr
  obtain ⟨de, dt⟩ := bd.2.2.2.1 d (by omega)
  have dt0 := dt.1
  have re := bd.2.2.2.2.1 r (by omega)
  refine Con.of (by decide +kernel) (Nat.le_of_ble_eq_true rfl) ?_
  refine mj_aload_n 0 dX10_share_0 rfl ?_
  refine mj_getf dX10_share_1 fgX10_12 (by repeat (first | assumption | exact mup_s _ _ _ | rw [mup_n _ _ (by omega)])) rfl ?_
  refine mj_iload_n 1 dX10_share_4 rfl ?_
  refine mj_cV1 [_] (RX0, TX0, 5) dX10_share_5 cwX0_rider lkX10_152 (bd.1) rfl rfl rfl rfl (cn_X0_rider bd (j := r) hi hr) ⟨Nat.le_of_ble_eq_true rfl, Nat.le_of_ble_eq_true rfl, Nat.le_of_ble_eq_true rfl, Nat.le_of_ble_eq_true rfl, Nat.le_of_ble_eq_true rfl⟩ (fun h' e' => ?_)
  subst h'
  refine mj_astore_n (ls' := [(2, _), (0, _), (1, _)]) dX10_share_8 (Nat.le_of_ble_eq_true rfl) rfl ?_
  refine mj_aload_n 0 dX10_share_9 rfl ?_
  refine mj_getf dX10_share_10 fgX10_159 (by repeat (first | assumption | exact mup_s _ _ _ | rw [mup_n _ _ (by omega)])) rfl ?_
  refine mj_iconst (v := (-1)) dX10_share_13 rfl ?_
  refine mj_icmp_ne 19 dX10_share_14 (by decide) (fun c_14 => ?_) (fun c_14 => ?_)
  · refine mj_aload_n 1 dX10_share_19 rfl ?_
    refine mj_getf dX10_share_20 fgX10_47 (by repeat (first | assumption | exact mup_s _ _ _ | rw [mup_n _ _ (by omega)])) rfl ?_
    refine mj_aload_n 1 dX10_share_23 rfl ?_
    refine mj_getf dX10_share_24 fgX10_12 (by repeat (first | assumption | exact mup_s _ _ _ | rw [mup_n _ _ (by omega)])) rfl ?_
    refine mj_aload_n 0 dX10_share_27 rfl ?_
    refine mj_getf dX10_share_28 fgX10_159 (by repeat (first | assumption | exact mup_s _ _ _ | rw [mup_n _ _ (by omega)])) rfl ?_
    refine mj_cV1 [_] (RX0, TX0, 5) dX10_share_31 cwX0_driver lkX10_99 (bd.1) rfl rfl rfl rfl (cn_X0_driver bd (j := d) hq hd) ⟨Nat.le_of_ble_eq_true rfl, Nat.le_of_ble_eq_true rfl, Nat.le_of_ble_eq_true rfl, Nat.le_of_ble_eq_true rfl, Nat.le_of_ble_eq_true rfl⟩ (fun h' e' => ?_)
    subst h'
    refine mj_cV0 [_] (RX9, TX9, 4) dX10_share_34 cwX9_divide lkX10_260 (sh.1) rfl rfl rfl rfl (cn_X9_divide sh ⟨de, dt⟩ (by omega) (by omega)) ⟨Nat.le_of_ble_eq_true rfl, Nat.le_of_ble_eq_true rfl, Nat.le_of_ble_eq_true rfl, Nat.le_of_ble_eq_true rfl, Nat.le_of_ble_eq_true rfl⟩ (fun h' e' => ?_)
    obtain ⟨s8, o8⟩ := e'
    have s80 := s8.1
    have s81 := s8.2.1
    have c08 := o8.at c0 (by omega)
    have re8 := o8.at re (by omega)
    refine mj_aload_n 1 dX10_share_37 rfl ?_
    refine mj_getf dX10_share_38 fgX10_47 (by repeat (first | assumption | exact mup_s _ _ _ | rw [mup_n _ _ (by omega)])) rfl ?_
    refine mj_getf dX10_share_41 fgX10_264 (by repeat (first | assumption | exact mup_s _ _ _ | rw [mup_n _ _ (by omega)])) rfl ?_
    refine mj_aload_n 0 dX10_share_44 rfl ?_
    refine mj_getf dX10_share_45 fgX10_146 (by repeat (first | assumption | exact mup_s _ _ _ | rw [mup_n _ _ (by omega)])) rfl ?_
    refine mj_iald (by repeat (first | assumption | exact mup_s _ _ _ | rw [mup_n _ _ (by omega)])) (by first | assumption | rfl | exact ixn (by omega)) (by omega) dX10_share_48 ?_
    exact mj_iret dX10_share_49 rfl (Nat.le_of_ble_eq_true rfl) (Nat.le_of_ble_eq_true rfl) ⟨(by unfold b_shr; rw [(v_div_ag V _ (bT (pB P) d) (dra (bD (pB P) d))).1 r (by omega)]), rfl, ⟨(⟨ba, sa, Sp, S, H, A, _, Kx, x.bd (bd.off o8 (by omega)) (ins.at fun q h1 h2 => o8 q (by omega)) (pf.off o8 (by omega)) (mt.off o8 (by omega)) s8 (o8.up (by omega) (by omega)).to2, xfc, xfp⟩ : Cp _ n c P), o8.toC (by omega) (by omega)⟩⟩
  · exact absurd c_14 (fun z => by have q := hq.symm.trans z; have q2 := congrArg Int32.toInt q; rw [ixn (by omega)] at q2; have q3 : (-1 : Int32).toInt = -1 := rfl; omega)
set_option maxRecDepth 100000 in
set_option maxHeartbeats 4000000 in
theorem cn_X10_driverShare_no {K : KX} {n : Nat} {h : MH} {c : Nat} {P : CS} (x : Cp h n c P) {i : Int32} (hi : b_in i 0 (nI (bnd (pB P)) - 1) = false) : Con K mX10_driverShare [.ref c, .int i] 1 6 n h (Thr "java/lang/IndexOutOfBoundsException" n h) := by
  obtain ⟨ba, sa, Sp, S, H, A, V, Kx, x, xfc, xfp⟩ := x
  obtain ⟨c0, bd, sp, sv, ins, pf, mt, sh, tx, rd, ad, nn⟩ := id x
  have b0 := bd.1
  have b5 := bd.2.2.2.2.2.1
  have b6 := bd.2.2.2.2.2.2
  have adr := x.adr
  have sh0 := sh.1
  refine Con.of (by decide +kernel) (Nat.le_of_ble_eq_true rfl) ?_
  refine mj_aload_n 0 dX10_driverShare_0 rfl ?_
  refine mj_getf dX10_driverShare_1 fgX10_47 (by repeat (first | assumption | exact mup_s _ _ _ | rw [mup_n _ _ (by omega)])) rfl ?_
  refine mj_aload_n 0 dX10_driverShare_4 rfl ?_
  refine mj_getf dX10_driverShare_5 fgX10_12 (by repeat (first | assumption | exact mup_s _ _ _ | rw [mup_n _ _ (by omega)])) rfl ?_
  refine mj_iload_n 1 dX10_driverShare_8 rfl ?_
  exact mj_tV [_] (RX0, TX0, 5) dX10_driverShare_9 cwX0_driver lkX10_99 b0 rfl rfl rfl rfl rfl (cn_X0_driver_no bd hi) ⟨Nat.le_of_ble_eq_true rfl, Nat.le_of_ble_eq_true rfl, Nat.le_of_ble_eq_true rfl, Nat.le_of_ble_eq_true rfl, Nat.le_of_ble_eq_true rfl⟩ (fun n9 h9 q1 q2 => ⟨rfl, q1, q2⟩)
set_option maxRecDepth 100000 in
set_option maxHeartbeats 4000000 in
theorem cn_X10_driverShare {K : KX} {n : Nat} {h : MH} {c : Nat} {P : CS} (x : Cp h n c P) {i : Int32} {d : Nat} (hi : i = nI d) (hd : d < bnd (pB P)) (ht : 2 ≤ rn (bT (pB P) d)) : Con K mX10_driverShare [.ref c, .int i] 0 0 n h (RetP (some (.int (b_shd (pB P) d))) n (fun h' => CpE h h' n c P)) := by
  obtain ⟨ba, sa, Sp, S, H, A, V, Kx, x, xfc, xfp⟩ := x
  obtain ⟨c0, bd, sp, sv, ins, pf, mt, sh, tx, rd, ad, nn⟩ := id x
  have b0 := bd.1
  have b5 := bd.2.2.2.2.2.1
  have b6 := bd.2.2.2.2.2.2
  have adr := x.adr
  obtain ⟨de, dt⟩ := bd.2.2.2.1 d (by omega)
  have dt0 := dt.1
  refine Con.of (by decide +kernel) (Nat.le_of_ble_eq_true rfl) ?_
  refine mj_aload_n 0 dX10_driverShare_0 rfl ?_
  refine mj_getf dX10_driverShare_1 fgX10_47 (by repeat (first | assumption | exact mup_s _ _ _ | rw [mup_n _ _ (by omega)])) rfl ?_
  refine mj_aload_n 0 dX10_driverShare_4 rfl ?_
  refine mj_getf dX10_driverShare_5 fgX10_12 (by repeat (first | assumption | exact mup_s _ _ _ | rw [mup_n _ _ (by omega)])) rfl ?_
  refine mj_iload_n 1 dX10_driverShare_8 rfl ?_
  refine mj_cV1 [_] (RX0, TX0, 5) dX10_driverShare_9 cwX0_driver lkX10_99 (bd.1) rfl rfl rfl rfl (cn_X0_driver bd (j := d) hi hd) ⟨Nat.le_of_ble_eq_true rfl, Nat.le_of_ble_eq_true rfl, Nat.le_of_ble_eq_true rfl, Nat.le_of_ble_eq_true rfl, Nat.le_of_ble_eq_true rfl⟩ (fun h' e' => ?_)
  subst h'
  refine mj_cV0 [_] (RX9, TX9, 4) dX10_driverShare_12 cwX9_divide lkX10_260 (sh.1) rfl rfl rfl rfl (cn_X9_divide sh ⟨de, dt⟩ (by omega) (by omega)) ⟨Nat.le_of_ble_eq_true rfl, Nat.le_of_ble_eq_true rfl, Nat.le_of_ble_eq_true rfl, Nat.le_of_ble_eq_true rfl, Nat.le_of_ble_eq_true rfl⟩ (fun h' e' => ?_)
  obtain ⟨s8, o8⟩ := e'
  have s80 := s8.1
  have s81 := s8.2.1
  have c08 := o8.at c0 (by omega)
  refine mj_aload_n 0 dX10_driverShare_15 rfl ?_
  refine mj_getf dX10_driverShare_16 fgX10_47 (by repeat (first | assumption | exact mup_s _ _ _ | rw [mup_n _ _ (by omega)])) rfl ?_
  refine mj_getf dX10_driverShare_19 fgX10_267 (by repeat (first | assumption | exact mup_s _ _ _ | rw [mup_n _ _ (by omega)])) rfl ?_
  exact mj_iret dX10_driverShare_22 rfl (Nat.le_of_ble_eq_true rfl) (Nat.le_of_ble_eq_true rfl) ⟨(by unfold b_shd; rw [(v_div_ag V _ (bT (pB P) d) (dra (bD (pB P) d))).2]), rfl, ⟨(⟨ba, sa, Sp, S, H, A, _, Kx, x.bd (bd.off o8 (by omega)) (ins.at fun q h1 h2 => o8 q (by omega)) (pf.off o8 (by omega)) (mt.off o8 (by omega)) s8 (o8.up (by omega) (by omega)).to2, xfc, xfp⟩ : Cp _ n c P), o8.toC (by omega) (by omega)⟩⟩
