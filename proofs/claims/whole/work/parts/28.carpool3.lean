theorem bin_ix42 {i : Int32} {m : Nat} (hm : m ≤ 42) : b_in i 0 (nI m - 1) = true ↔ ∃ j : Nat, j < m ∧ i = nI j := by
  have e1 : (nI m - 1).toInt = (m : Int) - 1 := pk_sub_toInt (a := m) (b := 1) (by omega) (by omega)
  have e0 : (0 : Int32).toInt = 0 := rfl
  constructor
  · intro h
    simp only [b_in, Bool.and_eq_true, decide_eq_true_eq, Int32.le_iff_toInt_le] at h
    refine ⟨i.toInt.toNat, by omega, ?_⟩
    apply Int32.toInt_inj.mp
    rw [ixn (by omega)]
    omega
  · rintro ⟨j, hj, rfl⟩
    have e2 := ixn (j := j) (by omega)
    simp only [b_in, Bool.and_eq_true, decide_eq_true_eq, Int32.le_iff_toInt_le]
    omega
set_option maxRecDepth 100000 in
set_option maxHeartbeats 4000000 in
theorem cn_X10_routeWithStop_nod {K : KX} {n : Nat} {h : MH} {c ba sa : Nat} {B : BS} (c0 : h c = some (cpC c ba sa)) (bd : Bd h ba B) {i j : Int32} (hi : b_in i 0 (nI (bnd B) - 1) = false) : Con K mX10_routeWithStop [.ref c, .int i, .int j] 1 6 n h (Thr "java/lang/IndexOutOfBoundsException" n h) := by
  have b0 := bd.1
  have b5 := bd.2.2.2.2.2.1
  have b6 := bd.2.2.2.2.2.2
  refine Con.of (by decide +kernel) (Nat.le_of_ble_eq_true rfl) ?_
  refine mj_aload_n 0 dX10_routeWithStop_0 rfl ?_
  refine mj_getf dX10_routeWithStop_1 fgX10_12 (by repeat (first | assumption | exact mup_s _ _ _ | rw [mup_n _ _ (by omega)])) rfl ?_
  refine mj_iload_n 1 dX10_routeWithStop_4 rfl ?_
  exact mj_tV [_] (RX0, TX0, 5) dX10_routeWithStop_5 cwX0_driver lkX10_99 b0 rfl rfl rfl rfl rfl (cn_X0_driver_no bd hi) ⟨Nat.le_of_ble_eq_true rfl, Nat.le_of_ble_eq_true rfl, Nat.le_of_ble_eq_true rfl, Nat.le_of_ble_eq_true rfl, Nat.le_of_ble_eq_true rfl⟩ (fun n9 h9 q1 q2 => ⟨rfl, q1, q2⟩)
set_option maxRecDepth 100000 in
set_option maxHeartbeats 4000000 in
theorem cn_X10_routeWithStop_nos {K : KX} {n : Nat} {h : MH} {c ba sa : Nat} {B : BS} (c0 : h c = some (cpC c ba sa)) (bd : Bd h ba B) {i : Int32} {d : Nat} (hi : i = nI d) (hd : d < bnd B) {j : Int32} (hj : b_in j 0 (nI (rn (bT B d)) - 1) = false) : Con K mX10_routeWithStop [.ref c, .int i, .int j] 1 6 n h (Thr "java/lang/IndexOutOfBoundsException" n h) := by
  have b0 := bd.1
  have b5 := bd.2.2.2.2.2.1
  have b6 := bd.2.2.2.2.2.2
  obtain ⟨de, dt⟩ := bd.2.2.2.1 d (by omega)
  have dt0 := dt.1
  refine Con.of (by decide +kernel) (Nat.le_of_ble_eq_true rfl) ?_
  refine mj_aload_n 0 dX10_routeWithStop_0 rfl ?_
  refine mj_getf dX10_routeWithStop_1 fgX10_12 (by repeat (first | assumption | exact mup_s _ _ _ | rw [mup_n _ _ (by omega)])) rfl ?_
  refine mj_iload_n 1 dX10_routeWithStop_4 rfl ?_
  refine mj_cV1 [_] (RX0, TX0, 5) dX10_routeWithStop_5 cwX0_driver lkX10_99 (bd.1) rfl rfl rfl rfl (cn_X0_driver bd (j := d) hi hd) ⟨Nat.le_of_ble_eq_true rfl, Nat.le_of_ble_eq_true rfl, Nat.le_of_ble_eq_true rfl, Nat.le_of_ble_eq_true rfl, Nat.le_of_ble_eq_true rfl⟩ (fun h' e' => ?_)
  subst h'
  refine mj_getf dX10_routeWithStop_8 fgX10_113 (by repeat (first | assumption | exact mup_s _ _ _ | rw [mup_n _ _ (by omega)])) rfl ?_
  refine mj_astore_n (ls' := [(3, _), (0, _), (1, _), (2, _)]) dX10_routeWithStop_11 (Nat.le_of_ble_eq_true rfl) rfl ?_
  refine mj_iload_n 3 dX10_routeWithStop_12 rfl ?_
  refine mj_iconst (v := 0) dX10_routeWithStop_13 rfl ?_
  refine mj_aload_n 0 dX10_routeWithStop_14 rfl ?_
  refine mj_getf dX10_routeWithStop_15 fgX10_169 (by repeat (first | assumption | exact mup_s _ _ _ | rw [mup_n _ _ (by omega)])) rfl ?_
  refine mj_iconst (v := 1) dX10_routeWithStop_18 rfl ?_
  refine mj_isub dX10_routeWithStop_19 ?_
  refine mj_cS1 [_, _, _] dX10_routeWithStop_20 cwX10_isWithin lkX10_65 rfl (cn_X10_isWithin _ _ _) ⟨Nat.le_of_ble_eq_true rfl, Nat.le_of_ble_eq_true rfl, Nat.le_of_ble_eq_true rfl, Nat.le_of_ble_eq_true rfl, Nat.le_of_ble_eq_true rfl⟩ (fun h' e' => ?_)
  subst h'
  refine mj_if_ne 37 dX10_routeWithStop_23 (by decide) (fun c_23 => ?_) (fun c_23 => ?_)
  · exact absurd (hj.symm.trans (bI_n0.mp c_23)) (by decide)
  · exact mj_throwSW (text := "there is no such stop") dX10_routeWithStop_26 dX10_routeWithStop_29 dX10_routeWithStop_30 dX10_routeWithStop_33 dX10_routeWithStop_36 thX10_317_321 (show (("Carpool", 319, "there is no such stop") : String × Nat × String) ∈ strK by decide +kernel) rfl (Nat.le_of_ble_eq_true rfl) (Nat.le_of_ble_eq_true rfl) (Nat.le_of_ble_eq_true rfl) (Nat.le_of_ble_eq_true rfl) (fun n9 h9 => ⟨rfl, h9, rfl⟩)
set_option maxRecDepth 100000 in
set_option maxHeartbeats 4000000 in
theorem cn_X10_routeWithStop {K : KX} {n : Nat} {h : MH} {c ba sa : Nat} {B : BS} (c0 : h c = some (cpC c ba sa)) (bd : Bd h ba B) {i : Int32} {d : Nat} (hi : i = nI d) (hd : d < bnd B) {j : Int32} (hj : b_in j 0 (nI (rn (bT B d)) - 1) = true) : Con K mX10_routeWithStop [.ref c, .int i, .int j] 0 0 n h (Ret (some (.ref (ba + 3 + 6 * d + 1))) n h) := by
  have b0 := bd.1
  have b5 := bd.2.2.2.2.2.1
  have b6 := bd.2.2.2.2.2.2
  obtain ⟨de, dt⟩ := bd.2.2.2.1 d (by omega)
  have dt0 := dt.1
  refine Con.of (by decide +kernel) (Nat.le_of_ble_eq_true rfl) ?_
  refine mj_aload_n 0 dX10_routeWithStop_0 rfl ?_
  refine mj_getf dX10_routeWithStop_1 fgX10_12 (by repeat (first | assumption | exact mup_s _ _ _ | rw [mup_n _ _ (by omega)])) rfl ?_
  refine mj_iload_n 1 dX10_routeWithStop_4 rfl ?_
  refine mj_cV1 [_] (RX0, TX0, 5) dX10_routeWithStop_5 cwX0_driver lkX10_99 (bd.1) rfl rfl rfl rfl (cn_X0_driver bd (j := d) hi hd) ⟨Nat.le_of_ble_eq_true rfl, Nat.le_of_ble_eq_true rfl, Nat.le_of_ble_eq_true rfl, Nat.le_of_ble_eq_true rfl, Nat.le_of_ble_eq_true rfl⟩ (fun h' e' => ?_)
  subst h'
  refine mj_getf dX10_routeWithStop_8 fgX10_113 (by repeat (first | assumption | exact mup_s _ _ _ | rw [mup_n _ _ (by omega)])) rfl ?_
  refine mj_astore_n (ls' := [(3, _), (0, _), (1, _), (2, _)]) dX10_routeWithStop_11 (Nat.le_of_ble_eq_true rfl) rfl ?_
  refine mj_iload_n 3 dX10_routeWithStop_12 rfl ?_
  refine mj_iconst (v := 0) dX10_routeWithStop_13 rfl ?_
  refine mj_aload_n 0 dX10_routeWithStop_14 rfl ?_
  refine mj_getf dX10_routeWithStop_15 fgX10_169 (by repeat (first | assumption | exact mup_s _ _ _ | rw [mup_n _ _ (by omega)])) rfl ?_
  refine mj_iconst (v := 1) dX10_routeWithStop_18 rfl ?_
  refine mj_isub dX10_routeWithStop_19 ?_
  refine mj_cS1 [_, _, _] dX10_routeWithStop_20 cwX10_isWithin lkX10_65 rfl (cn_X10_isWithin _ _ _) ⟨Nat.le_of_ble_eq_true rfl, Nat.le_of_ble_eq_true rfl, Nat.le_of_ble_eq_true rfl, Nat.le_of_ble_eq_true rfl, Nat.le_of_ble_eq_true rfl⟩ (fun h' e' => ?_)
  subst h'
  refine mj_if_ne 37 dX10_routeWithStop_23 (by decide) (fun c_23 => ?_) (fun c_23 => ?_)
  · refine mj_aload_n 0 dX10_routeWithStop_37 rfl ?_
    exact mj_aret dX10_routeWithStop_38 rfl (Or.inr ⟨_, rfl⟩) (Nat.le_of_ble_eq_true rfl) (Nat.le_of_ble_eq_true rfl) ⟨rfl, rfl, rfl⟩
  · exact absurd (hj.symm.trans (bI_0.mp c_23)) (by decide)
set_option maxRecDepth 100000 in
set_option maxHeartbeats 4000000 in
theorem cn_X10_stopRider_nod {K : KX} {n : Nat} {h : MH} {c : Nat} {P : CS} (x : Cp h n c P) {i : Int32} (hi : b_in i 0 (nI (bnd (pB P)) - 1) = false) {j : Int32} : Con K mX10_stopRider [.ref c, .int i, .int j] 1 6 n h (Thr "java/lang/IndexOutOfBoundsException" n h) := by
  obtain ⟨ba, sa, Sp, S, H, A, V, Kx, x, xfc, xfp⟩ := x
  obtain ⟨c0, bd, sp, sv, ins, pf, mt, sh, tx, rd, ad, nn⟩ := id x
  have b0 := bd.1
  have b5 := bd.2.2.2.2.2.1
  have b6 := bd.2.2.2.2.2.2
  have adr := x.adr
  refine Con.of (by decide +kernel) (Nat.le_of_ble_eq_true rfl) ?_
  refine mj_aload_n 0 dX10_stopRider_0 rfl ?_
  refine mj_iload_n 1 dX10_stopRider_1 rfl ?_
  refine mj_iload_n 2 dX10_stopRider_2 rfl ?_
  exact mj_tV [_, _] (RX10, TX10, 9) dX10_stopRider_3 cwX10_routeWithStop lkX10_172 c0 rfl rfl rfl rfl rfl (cn_X10_routeWithStop_nod c0 bd hi) ⟨Nat.le_of_ble_eq_true rfl, Nat.le_of_ble_eq_true rfl, Nat.le_of_ble_eq_true rfl, Nat.le_of_ble_eq_true rfl, Nat.le_of_ble_eq_true rfl⟩ (fun n9 h9 q1 q2 => ⟨rfl, q1, q2⟩)
set_option maxRecDepth 100000 in
set_option maxHeartbeats 4000000 in
theorem cn_X10_stopRider_nos {K : KX} {n : Nat} {h : MH} {c : Nat} {P : CS} (x : Cp h n c P) {i : Int32} {d : Nat} (hi : i = nI d) (hd : d < bnd (pB P)) {j : Int32} (hj : b_in j 0 (nI (rn (bT (pB P) d)) - 1) = false) : Con K mX10_stopRider [.ref c, .int i, .int j] 1 6 n h (Thr "java/lang/IndexOutOfBoundsException" n h) := by
  obtain ⟨ba, sa, Sp, S, H, A, V, Kx, x, xfc, xfp⟩ := x
  obtain ⟨c0, bd, sp, sv, ins, pf, mt, sh, tx, rd, ad, nn⟩ := id x
  have b0 := bd.1
  have b5 := bd.2.2.2.2.2.1
  have b6 := bd.2.2.2.2.2.2
  have adr := x.adr
  refine Con.of (by decide +kernel) (Nat.le_of_ble_eq_true rfl) ?_
  refine mj_aload_n 0 dX10_stopRider_0 rfl ?_
  refine mj_iload_n 1 dX10_stopRider_1 rfl ?_
  refine mj_iload_n 2 dX10_stopRider_2 rfl ?_
  exact mj_tV [_, _] (RX10, TX10, 9) dX10_stopRider_3 cwX10_routeWithStop lkX10_172 c0 rfl rfl rfl rfl rfl (cn_X10_routeWithStop_nos c0 bd hi hd hj) ⟨Nat.le_of_ble_eq_true rfl, Nat.le_of_ble_eq_true rfl, Nat.le_of_ble_eq_true rfl, Nat.le_of_ble_eq_true rfl, Nat.le_of_ble_eq_true rfl⟩ (fun n9 h9 q1 q2 => ⟨rfl, q1, q2⟩)
set_option maxRecDepth 100000 in
set_option maxHeartbeats 4000000 in
theorem cn_X10_stopRider {K : KX} {n : Nat} {h : MH} {c : Nat} {P : CS} (x : Cp h n c P) {i : Int32} {d : Nat} (hi : i = nI d) (hd : d < bnd (pB P)) {j : Int32} {t : Nat} (hj : j = nI t) (ht : t < rn (bT (pB P) d)) : Con K mX10_stopRider [.ref c, .int i, .int j] 0 0 n h (Ret (some (.int (rc (bT (pB P) d) t))) n h) := by
  obtain ⟨ba, sa, Sp, S, H, A, V, Kx, x, xfc, xfp⟩ := x
  obtain ⟨c0, bd, sp, sv, ins, pf, mt, sh, tx, rd, ad, nn⟩ := id x
  have b0 := bd.1
  have b5 := bd.2.2.2.2.2.1
  have b6 := bd.2.2.2.2.2.2
  have adr := x.adr
  obtain ⟨de, dt⟩ := bd.2.2.2.1 d (by omega)
  have dt0 := dt.1
  have r5 := dt.2.2.2.2.2
  have hj2 := (bin_ix42 (i := j) (m := rn (bT (pB P) d)) r5).mpr ⟨t, ht, hj⟩
  have r1 := dt.2.1
  refine Con.of (by decide +kernel) (Nat.le_of_ble_eq_true rfl) ?_
  refine mj_aload_n 0 dX10_stopRider_0 rfl ?_
  refine mj_iload_n 1 dX10_stopRider_1 rfl ?_
  refine mj_iload_n 2 dX10_stopRider_2 rfl ?_
  refine mj_cV1 [_, _] (RX10, TX10, 9) dX10_stopRider_3 cwX10_routeWithStop lkX10_172 c0 rfl rfl rfl rfl (cn_X10_routeWithStop c0 bd hi hd hj2) ⟨Nat.le_of_ble_eq_true rfl, Nat.le_of_ble_eq_true rfl, Nat.le_of_ble_eq_true rfl, Nat.le_of_ble_eq_true rfl, Nat.le_of_ble_eq_true rfl⟩ (fun h' e' => ?_)
  subst h'
  refine mj_getf dX10_stopRider_6 fgX10_176 (by repeat (first | assumption | exact mup_s _ _ _ | rw [mup_n _ _ (by omega)])) rfl ?_
  refine mj_iload_n 2 dX10_stopRider_9 rfl ?_
  refine mj_iald (by repeat (first | assumption | exact mup_s _ _ _ | rw [mup_n _ _ (by omega)])) (show j.toInt = (t : Int) by rw [hj]; exact ixn (by omega)) (by omega) dX10_stopRider_10 ?_
  exact mj_iret dX10_stopRider_11 rfl (Nat.le_of_ble_eq_true rfl) (Nat.le_of_ble_eq_true rfl) ⟨rfl, rfl, rfl⟩
set_option maxRecDepth 100000 in
set_option maxHeartbeats 4000000 in
theorem cn_X10_arrival_nod {K : KX} {n : Nat} {h : MH} {c : Nat} {P : CS} (x : Cp h n c P) {i : Int32} (hi : b_in i 0 (nI (bnd (pB P)) - 1) = false) {j : Int32} : Con K mX10_arrival [.ref c, .int i, .int j] 1 6 n h (Thr "java/lang/IndexOutOfBoundsException" n h) := by
  obtain ⟨ba, sa, Sp, S, H, A, V, Kx, x, xfc, xfp⟩ := x
  obtain ⟨c0, bd, sp, sv, ins, pf, mt, sh, tx, rd, ad, nn⟩ := id x
  have b0 := bd.1
  have b5 := bd.2.2.2.2.2.1
  have b6 := bd.2.2.2.2.2.2
  have adr := x.adr
  refine Con.of (by decide +kernel) (Nat.le_of_ble_eq_true rfl) ?_
  refine mj_aload_n 0 dX10_arrival_0 rfl ?_
  refine mj_iload_n 1 dX10_arrival_1 rfl ?_
  refine mj_iload_n 2 dX10_arrival_2 rfl ?_
  exact mj_tV [_, _] (RX10, TX10, 9) dX10_arrival_3 cwX10_routeWithStop lkX10_172 c0 rfl rfl rfl rfl rfl (cn_X10_routeWithStop_nod c0 bd hi) ⟨Nat.le_of_ble_eq_true rfl, Nat.le_of_ble_eq_true rfl, Nat.le_of_ble_eq_true rfl, Nat.le_of_ble_eq_true rfl, Nat.le_of_ble_eq_true rfl⟩ (fun n9 h9 q1 q2 => ⟨rfl, q1, q2⟩)
set_option maxRecDepth 100000 in
set_option maxHeartbeats 4000000 in
theorem cn_X10_arrival_nos {K : KX} {n : Nat} {h : MH} {c : Nat} {P : CS} (x : Cp h n c P) {i : Int32} {d : Nat} (hi : i = nI d) (hd : d < bnd (pB P)) {j : Int32} (hj : b_in j 0 (nI (rn (bT (pB P) d)) - 1) = false) : Con K mX10_arrival [.ref c, .int i, .int j] 1 6 n h (Thr "java/lang/IndexOutOfBoundsException" n h) := by
  obtain ⟨ba, sa, Sp, S, H, A, V, Kx, x, xfc, xfp⟩ := x
  obtain ⟨c0, bd, sp, sv, ins, pf, mt, sh, tx, rd, ad, nn⟩ := id x
  have b0 := bd.1
  have b5 := bd.2.2.2.2.2.1
  have b6 := bd.2.2.2.2.2.2
  have adr := x.adr
  refine Con.of (by decide +kernel) (Nat.le_of_ble_eq_true rfl) ?_
  refine mj_aload_n 0 dX10_arrival_0 rfl ?_
  refine mj_iload_n 1 dX10_arrival_1 rfl ?_
  refine mj_iload_n 2 dX10_arrival_2 rfl ?_
  exact mj_tV [_, _] (RX10, TX10, 9) dX10_arrival_3 cwX10_routeWithStop lkX10_172 c0 rfl rfl rfl rfl rfl (cn_X10_routeWithStop_nos c0 bd hi hd hj) ⟨Nat.le_of_ble_eq_true rfl, Nat.le_of_ble_eq_true rfl, Nat.le_of_ble_eq_true rfl, Nat.le_of_ble_eq_true rfl, Nat.le_of_ble_eq_true rfl⟩ (fun n9 h9 q1 q2 => ⟨rfl, q1, q2⟩)
set_option maxRecDepth 100000 in
set_option maxHeartbeats 4000000 in
theorem cn_X10_arrival {K : KX} {n : Nat} {h : MH} {c : Nat} {P : CS} (x : Cp h n c P) {i : Int32} {d : Nat} (hi : i = nI d) (hd : d < bnd (pB P)) {j : Int32} {t : Nat} (hj : j = nI t) (ht : t < rn (bT (pB P) d)) : Con K mX10_arrival [.ref c, .int i, .int j] 0 0 n h (Ret (some (.int (r_arr (bT (pB P) d) (dde (bD (pB P) d)) t))) n h) := by
  obtain ⟨ba, sa, Sp, S, H, A, V, Kx, x, xfc, xfp⟩ := x
  obtain ⟨c0, bd, sp, sv, ins, pf, mt, sh, tx, rd, ad, nn⟩ := id x
  have b0 := bd.1
  have b5 := bd.2.2.2.2.2.1
  have b6 := bd.2.2.2.2.2.2
  have adr := x.adr
  obtain ⟨de, dt⟩ := bd.2.2.2.1 d (by omega)
  have dt0 := dt.1
  have r5 := dt.2.2.2.2.2
  have hj2 := (bin_ix42 (i := j) (m := rn (bT (pB P) d)) r5).mpr ⟨t, ht, hj⟩
  have r1 := dt.2.1
  refine Con.of (by decide +kernel) (Nat.le_of_ble_eq_true rfl) ?_
  refine mj_aload_n 0 dX10_arrival_0 rfl ?_
  refine mj_iload_n 1 dX10_arrival_1 rfl ?_
  refine mj_iload_n 2 dX10_arrival_2 rfl ?_
  refine mj_cV1 [_, _] (RX10, TX10, 9) dX10_arrival_3 cwX10_routeWithStop lkX10_172 c0 rfl rfl rfl rfl (cn_X10_routeWithStop c0 bd hi hd hj2) ⟨Nat.le_of_ble_eq_true rfl, Nat.le_of_ble_eq_true rfl, Nat.le_of_ble_eq_true rfl, Nat.le_of_ble_eq_true rfl, Nat.le_of_ble_eq_true rfl⟩ (fun h' e' => ?_)
  subst h'
  refine mj_iload_n 2 dX10_arrival_6 rfl ?_
  refine mj_aload_n 0 dX10_arrival_7 rfl ?_
  refine mj_getf dX10_arrival_8 fgX10_12 (by repeat (first | assumption | exact mup_s _ _ _ | rw [mup_n _ _ (by omega)])) rfl ?_
  refine mj_iload_n 1 dX10_arrival_11 rfl ?_
  refine mj_cV1 [_] (RX0, TX0, 5) dX10_arrival_12 cwX0_driver lkX10_99 (bd.1) rfl rfl rfl rfl (cn_X0_driver bd (j := d) hi hd) ⟨Nat.le_of_ble_eq_true rfl, Nat.le_of_ble_eq_true rfl, Nat.le_of_ble_eq_true rfl, Nat.le_of_ble_eq_true rfl, Nat.le_of_ble_eq_true rfl⟩ (fun h' e' => ?_)
  subst h'
  refine mj_getf dX10_arrival_15 fgX10_180 (by repeat (first | assumption | exact mup_s _ _ _ | rw [mup_n _ _ (by omega)])) rfl ?_
  subst hj
  refine mj_cV1 [_, _] (RX6, TX6, 5) dX10_arrival_18 cwX6_arrivalAt lkX10_183 dt0 rfl rfl rfl rfl (cn_X6_arrivalAt dt ht) ⟨Nat.le_of_ble_eq_true rfl, Nat.le_of_ble_eq_true rfl, Nat.le_of_ble_eq_true rfl, Nat.le_of_ble_eq_true rfl, Nat.le_of_ble_eq_true rfl⟩ (fun h' e' => ?_)
  subst h'
  exact mj_iret dX10_arrival_21 rfl (Nat.le_of_ble_eq_true rfl) (Nat.le_of_ble_eq_true rfl) ⟨rfl, rfl, rfl⟩
def b_dbt (B : BS) (pl : Int32) : Int32 := i_first (fun r => decide (nI (b_debt B (qcr (bX B r)) r (bnr B)) = pl)) (bnr B) 0
set_option maxRecDepth 100000 in
set_option maxHeartbeats 4000000 in
theorem cn_X10_debtor {K : KX} {n : Nat} {h : MH} {c : Nat} {P : CS} (x : Cp h n c P) {pl : Int32} : Con K mX10_debtor [.ref c, .int pl] 0 0 n h (Ret (some (.int (b_dbt (pB P) pl))) n h) := by
  refine Con.of (by decide +kernel) (Nat.le_of_ble_eq_true rfl) ?_
  obtain ⟨ba, sa, Sp, S, H, A, V, Kx, x, xfc, xfp⟩ := x
  obtain ⟨c0, bd, sp, sv, ins, pf, mt, sh, tx, rd, ad, nn⟩ := id x
  have b0 := bd.1
  have b5 := bd.2.2.2.2.2.1
  have b6 := bd.2.2.2.2.2.2
  have adr := x.adr
  have loop : ∀ (f : Nat) (k : Nat), k + f = bnr (pB P) → b_dbt (pB P) pl = i_first (fun r => decide (nI (b_debt (pB P) (qcr (bX (pB P) r)) r (bnr (pB P))) = pl)) f k → GG (K, mX10_debtor, 0, 0, Ret (some (.int (b_dbt (pB P) pl))) n h) 0 0 2 [(2, .int (nI k)), (0, .ref c), (1, .int pl)] [] n h := by
    intro f
    induction f with
    | zero =>
      intro k hk hc
      refine mj_iload_n 0 dX10_debtor_2 rfl ?_
      refine mj_aload_n 1 dX10_debtor_3 rfl ?_
      refine mj_getf dX10_debtor_4 fgX10_12 (by repeat (first | assumption | exact mup_s _ _ _ | rw [mup_n _ _ (by omega)])) rfl ?_
      refine mj_getf dX10_debtor_7 fgX10_150 (by repeat (first | assumption | exact mup_s _ _ _ | rw [mup_n _ _ (by omega)])) rfl ?_
      refine mj_icmp_ge 40 dX10_debtor_10 (by decide) (fun c_10 => ?_) (fun c_10 => ?_)
      · refine mj_iconst (v := (-1)) dX10_debtor_40 rfl ?_
        exact mj_iret dX10_debtor_41 rfl (Nat.le_of_ble_eq_true rfl) (Nat.le_of_ble_eq_true rfl) ⟨(by rw [hc]; rfl), rfl, rfl⟩
      · exact absurd (nI_le (by omega) (by omega)) c_10
    | succ f ih =>
      intro k hk hc
      refine mj_iload_n 0 dX10_debtor_2 rfl ?_
      refine mj_aload_n 1 dX10_debtor_3 rfl ?_
      refine mj_getf dX10_debtor_4 fgX10_12 (by repeat (first | assumption | exact mup_s _ _ _ | rw [mup_n _ _ (by omega)])) rfl ?_
      refine mj_getf dX10_debtor_7 fgX10_150 (by repeat (first | assumption | exact mup_s _ _ _ | rw [mup_n _ _ (by omega)])) rfl ?_
      refine mj_icmp_ge 40 dX10_debtor_10 (by decide) (fun c_10 => ?_) (fun c_10 => ?_)
      · exact absurd c_10 (nI_ge (by omega) (by omega))
      · refine mj_aload_n 1 dX10_debtor_13 rfl ?_
        refine mj_getf dX10_debtor_14 fgX10_12 (by repeat (first | assumption | exact mup_s _ _ _ | rw [mup_n _ _ (by omega)])) rfl ?_
        refine mj_aload_n 1 dX10_debtor_17 rfl ?_
        refine mj_getf dX10_debtor_18 fgX10_12 (by repeat (first | assumption | exact mup_s _ _ _ | rw [mup_n _ _ (by omega)])) rfl ?_
        refine mj_iload_n 0 dX10_debtor_21 rfl ?_
        refine mj_cV1 [_] (RX0, TX0, 5) dX10_debtor_22 cwX0_rider lkX10_152 (bd.1) rfl rfl rfl rfl (cn_X0_rider bd (j := k) rfl (by omega)) ⟨Nat.le_of_ble_eq_true rfl, Nat.le_of_ble_eq_true rfl, Nat.le_of_ble_eq_true rfl, Nat.le_of_ble_eq_true rfl, Nat.le_of_ble_eq_true rfl⟩ (fun h' e' => ?_)
        subst h'
        refine mj_cV1 [_] (RX0, TX0, 5) dX10_debtor_25 cwX0_ridersInGreaterDebt lkX10_274 b0 rfl rfl rfl rfl (cn_X0_ridersInGreaterDebt bd (j := k) (by omega)) ⟨Nat.le_of_ble_eq_true rfl, Nat.le_of_ble_eq_true rfl, Nat.le_of_ble_eq_true rfl, Nat.le_of_ble_eq_true rfl, Nat.le_of_ble_eq_true rfl⟩ (fun h' e' => ?_)
        subst h'
        refine mj_iload_n 2 dX10_debtor_28 rfl ?_
        refine mj_icmp_ne 34 dX10_debtor_29 (by decide) (fun c_29 => ?_) (fun c_29 => ?_)
        · refine mj_iinc (ls' := [(2, _), (0, _), (1, _)]) 0 dX10_debtor_34 rfl (nI_s _) (Nat.le_of_ble_eq_true rfl) rfl ?_
          refine mj_goto 2 dX10_debtor_37 (by decide) ?_
          exact mj_ls [0, 1, 2] rfl (ih (k + 1) (by omega) (by rw [hc]; simp [i_first, *]))
        · refine mj_iload_n 0 dX10_debtor_32 rfl ?_
          exact mj_iret dX10_debtor_33 rfl (Nat.le_of_ble_eq_true rfl) (Nat.le_of_ble_eq_true rfl) ⟨(by rw [hc]; simp [i_first, *]), rfl, rfl⟩
  refine mj_iconst (v := 0) dX10_debtor_0 rfl ?_
  refine mj_istore_n (ls' := [(2, _), (0, _), (1, _)]) dX10_debtor_1 (Nat.le_of_ble_eq_true rfl) rfl ?_
  exact mj_ls [0, 1, 2] rfl (loop (bnr (pB P)) 0 (by omega) rfl)
def i_cd (a : Int32) (m : Int32) : Nat → Int32
  | 0 => 1
  | k + 1 => if k = 0 then 1 else if a - a / nI (k + 1) * nI (k + 1) = 0 ∧ m - m / nI (k + 1) * nI (k + 1) = 0 then nI (k + 1) else i_cd a m k
theorem nI_nz {k : Nat} (h : k + 1 < 2147483648) : ¬ nI (k + 1) = 0 := fun z => by
  have := congrArg Int32.toInt z
  rw [ixn h] at this
  have e0 : (0 : Int32).toInt = 0 := rfl
  omega
set_option maxRecDepth 100000 in
set_option maxHeartbeats 4000000 in
theorem cn_X10_commonDivisor {K : KX} {n : Nat} {h : MH} {a : Int32} {m : Nat} (hm : m < 1000) : Con K mX10_commonDivisor [.int a, .int (nI m)] 0 0 n h (Ret (some (.int (i_cd a (nI m) m))) n h) := by
  refine Con.of (by decide +kernel) (Nat.le_of_ble_eq_true rfl) ?_
  have loop : ∀ (k : Nat), k ≤ m → i_cd a (nI m) m = i_cd a (nI m) k → GG (K, mX10_commonDivisor, 0, 0, Ret (some (.int (i_cd a (nI m) m))) n h) 0 0 2 [(2, .int (nI k)), (0, .int a), (1, .int (nI m))] [] n h := by
    intro k
    induction k with
    | zero =>
      intro hk hc
      refine mj_iload_n 0 dX10_commonDivisor_2 rfl ?_
      refine mj_iconst (v := 1) dX10_commonDivisor_3 rfl ?_
      refine mj_icmp_le 27 dX10_commonDivisor_4 (by decide) (fun c_4 => ?_) (fun c_4 => ?_)
      · refine mj_iconst (v := 1) dX10_commonDivisor_27 rfl ?_
        exact mj_iret dX10_commonDivisor_28 rfl (Nat.le_of_ble_eq_true rfl) (Nat.le_of_ble_eq_true rfl) ⟨(by rw [hc]; rfl), rfl, rfl⟩
      · exact absurd (nI_le (show 0 ≤ 1 by omega) (by omega)) c_4
    | succ k ih =>
      intro hk hc
      by_cases hk0 : k = 0
      · subst hk0
        refine mj_iload_n 0 dX10_commonDivisor_2 rfl ?_
        refine mj_iconst (v := 1) dX10_commonDivisor_3 rfl ?_
        refine mj_icmp_le 27 dX10_commonDivisor_4 (by decide) (fun c_4 => ?_) (fun c_4 => ?_)
        · refine mj_iconst (v := 1) dX10_commonDivisor_27 rfl ?_
          exact mj_iret dX10_commonDivisor_28 rfl (Nat.le_of_ble_eq_true rfl) (Nat.le_of_ble_eq_true rfl) ⟨(by rw [hc]; rfl), rfl, rfl⟩
        · exact absurd (nI_le (show 0 + 1 ≤ 1 by omega) (by omega)) c_4
      · skip
        refine mj_iload_n 0 dX10_commonDivisor_2 rfl ?_
        refine mj_iconst (v := 1) dX10_commonDivisor_3 rfl ?_
        refine mj_icmp_le 27 dX10_commonDivisor_4 (by decide) (fun c_4 => ?_) (fun c_4 => ?_)
        · exact absurd c_4 (nI_ge (show 1 < k + 1 by omega) (by omega))
        · refine mj_iload_n 1 dX10_commonDivisor_7 rfl ?_
          refine mj_iload_n 0 dX10_commonDivisor_8 rfl ?_
          refine mj_irem dX10_commonDivisor_9 (nI_nz (by omega)) ?_
          refine mj_if_ne 21 dX10_commonDivisor_10 (by decide) (fun c_10 => ?_) (fun c_10 => ?_)
          · refine mj_iinc (ls' := [(2, _), (0, _), (1, _)]) 0 dX10_commonDivisor_21 rfl (show nI (k + 1) + Int32.ofInt (-1) = nI k from pk_m1 _) (Nat.le_of_ble_eq_true rfl) rfl ?_
            refine mj_goto 2 dX10_commonDivisor_24 (by decide) ?_
            exact mj_ls [0, 1, 2] rfl (ih (by omega) (by rw [hc]; conv => lhs; unfold i_cd; rw [if_neg hk0, if_neg (fun z => c_10 z.1)]))
          · refine mj_iload_n 2 dX10_commonDivisor_13 rfl ?_
            refine mj_iload_n 0 dX10_commonDivisor_14 rfl ?_
            refine mj_irem dX10_commonDivisor_15 (nI_nz (by omega)) ?_
            refine mj_if_ne 21 dX10_commonDivisor_16 (by decide) (fun c_16 => ?_) (fun c_16 => ?_)
            · refine mj_iinc (ls' := [(2, _), (0, _), (1, _)]) 0 dX10_commonDivisor_21 rfl (show nI (k + 1) + Int32.ofInt (-1) = nI k from pk_m1 _) (Nat.le_of_ble_eq_true rfl) rfl ?_
              refine mj_goto 2 dX10_commonDivisor_24 (by decide) ?_
              exact mj_ls [0, 1, 2] rfl (ih (by omega) (by rw [hc]; conv => lhs; unfold i_cd; rw [if_neg hk0, if_neg (fun z => c_16 z.2)]))
            · refine mj_iload_n 0 dX10_commonDivisor_19 rfl ?_
              exact mj_iret dX10_commonDivisor_20 rfl (Nat.le_of_ble_eq_true rfl) (Nat.le_of_ble_eq_true rfl) ⟨(by rw [hc]; unfold i_cd; rw [if_neg hk0, if_pos ⟨c_10, c_16⟩]), rfl, rfl⟩
  refine mj_iload_n 1 dX10_commonDivisor_0 rfl ?_
  refine mj_istore_n (ls' := [(2, _), (0, _), (1, _)]) dX10_commonDivisor_1 (Nat.le_of_ble_eq_true rfl) rfl ?_
  exact mj_ls [0, 1, 2] rfl (loop m (Nat.le_refl m) rfl)
def b_cnt (B : BS) : Nat := b_cntTo B (bnd B)
def b_sum (B : BS) : Int32 := b_sumTo B (bnd B)
def b_num (B : BS) : Int32 := if b_cnt B = 0 then 0 else b_sum B / i_cd (b_sum B) (nI (b_cnt B)) (b_cnt B)
def b_den (B : BS) : Int32 := if b_cnt B = 0 then 1 else nI (b_cnt B) / i_cd (b_sum B) (nI (b_cnt B)) (b_cnt B)
theorem i_cd_pos (a m : Int32) : ∀ k, k < 1000 → ∃ j, j + 1 < 1000 ∧ i_cd a m k = nI (j + 1)
  | 0, _ => ⟨0, by omega, rfl⟩
  | k + 1, h => by
    unfold i_cd
    split
    · exact ⟨0, by omega, rfl⟩
    · split
      · exact ⟨k, by omega, rfl⟩
      · exact i_cd_pos a m k (by omega)
theorem i_cd_ne0 (a m : Int32) {k : Nat} (h : k < 1000) : ¬ i_cd a m k = 0 := by
  obtain ⟨j, h1, h2⟩ := i_cd_pos a m k h
  rw [h2]
  exact nI_nz (by omega)
set_option maxRecDepth 100000 in
set_option maxHeartbeats 4000000 in
theorem cn_X10_meanDetourNumerator {K : KX} {n : Nat} {h : MH} {c : Nat} {P : CS} (x : Cp h n c P) (tk : Tok (pB P)) : Con K mX10_meanDetourNumerator [.ref c] 0 0 n h (Ret (some (.int (b_num (pB P)))) n h) := by
  obtain ⟨ba, sa, Sp, S, H, A, V, Kx, x, xfc, xfp⟩ := x
  obtain ⟨c0, bd, sp, sv, ins, pf, mt, sh, tx, rd, ad, nn⟩ := id x
  have b0 := bd.1
  have b5 := bd.2.2.2.2.2.1
  have b6 := bd.2.2.2.2.2.2
  have adr := x.adr
  have hc := b_cntTo_le (pB P) (bnd (pB P))
  refine Con.of (by decide +kernel) (Nat.le_of_ble_eq_true rfl) ?_
  refine mj_aload_n 0 dX10_meanDetourNumerator_0 rfl ?_
  refine mj_getf dX10_meanDetourNumerator_1 fgX10_12 (by repeat (first | assumption | exact mup_s _ _ _ | rw [mup_n _ _ (by omega)])) rfl ?_
  refine mj_cV1 [] (RX0, TX0, 5) dX10_meanDetourNumerator_4 cwX0_driversWithRiders lkX10_278 b0 rfl rfl rfl rfl (cn_X0_driversWithRiders bd) ⟨Nat.le_of_ble_eq_true rfl, Nat.le_of_ble_eq_true rfl, Nat.le_of_ble_eq_true rfl, Nat.le_of_ble_eq_true rfl, Nat.le_of_ble_eq_true rfl⟩ (fun h' e' => ?_)
  subst h'
  refine mj_istore_n (ls' := [(1, _), (0, _)]) dX10_meanDetourNumerator_7 (Nat.le_of_ble_eq_true rfl) rfl ?_
  refine mj_aload_n 1 dX10_meanDetourNumerator_8 rfl ?_
  refine mj_getf dX10_meanDetourNumerator_9 fgX10_12 (by repeat (first | assumption | exact mup_s _ _ _ | rw [mup_n _ _ (by omega)])) rfl ?_
  refine mj_cV1 [] (RX0, TX0, 5) dX10_meanDetourNumerator_12 cwX0_sumOfDetours lkX10_281 b0 rfl rfl rfl rfl (cn_X0_sumOfDetours bd tk) ⟨Nat.le_of_ble_eq_true rfl, Nat.le_of_ble_eq_true rfl, Nat.le_of_ble_eq_true rfl, Nat.le_of_ble_eq_true rfl, Nat.le_of_ble_eq_true rfl⟩ (fun h' e' => ?_)
  subst h'
  refine mj_istore_n (ls' := [(2, _), (1, _), (0, _)]) dX10_meanDetourNumerator_15 (Nat.le_of_ble_eq_true rfl) rfl ?_
  refine mj_iload_n 1 dX10_meanDetourNumerator_16 rfl ?_
  refine mj_if_ne 24 dX10_meanDetourNumerator_17 (by decide) (fun c_17 => ?_) (fun c_17 => ?_)
  · have z : ¬ b_cnt (pB P) = 0 := fun q => c_17 (by show nI (b_cnt (pB P)) = 0; rw [q]; rfl)
    refine mj_iload_n 0 dX10_meanDetourNumerator_24 rfl ?_
    refine mj_iload_n 0 dX10_meanDetourNumerator_25 rfl ?_
    refine mj_iload_n 1 dX10_meanDetourNumerator_26 rfl ?_
    refine mj_cS1 [_, _] dX10_meanDetourNumerator_27 cwX10_commonDivisor lkX10_284 rfl (cn_X10_commonDivisor (by show b_cntTo _ _ < 1000; omega)) ⟨Nat.le_of_ble_eq_true rfl, Nat.le_of_ble_eq_true rfl, Nat.le_of_ble_eq_true rfl, Nat.le_of_ble_eq_true rfl, Nat.le_of_ble_eq_true rfl⟩ (fun h' e' => ?_)
    subst h'
    refine mj_idiv dX10_meanDetourNumerator_30 (i_cd_ne0 _ _ (by show b_cntTo _ _ < 1000; omega)) ?_
    exact mj_iret dX10_meanDetourNumerator_31 rfl (Nat.le_of_ble_eq_true rfl) (Nat.le_of_ble_eq_true rfl) ⟨(by unfold b_num; first | rw [if_pos z] | (rw [if_neg z]; rfl)), rfl, rfl⟩
  · have z : b_cnt (pB P) = 0 := by have q := congrArg Int32.toInt c_17; rw [ixn (by show b_cntTo _ _ < _; omega)] at q; have e0 : (0 : Int32).toInt = 0 := rfl; show b_cntTo _ _ = 0; omega
    refine mj_iconst (v := 0) dX10_meanDetourNumerator_20 rfl ?_
    refine mj_goto 31 dX10_meanDetourNumerator_21 (by decide) ?_
    exact mj_iret dX10_meanDetourNumerator_31 rfl (Nat.le_of_ble_eq_true rfl) (Nat.le_of_ble_eq_true rfl) ⟨(by unfold b_num; first | rw [if_pos z] | (rw [if_neg z]; rfl)), rfl, rfl⟩
set_option maxRecDepth 100000 in
set_option maxHeartbeats 4000000 in
theorem cn_X10_meanDetourDenominator {K : KX} {n : Nat} {h : MH} {c : Nat} {P : CS} (x : Cp h n c P) (tk : Tok (pB P)) : Con K mX10_meanDetourDenominator [.ref c] 0 0 n h (Ret (some (.int (b_den (pB P)))) n h) := by
  obtain ⟨ba, sa, Sp, S, H, A, V, Kx, x, xfc, xfp⟩ := x
  obtain ⟨c0, bd, sp, sv, ins, pf, mt, sh, tx, rd, ad, nn⟩ := id x
  have b0 := bd.1
  have b5 := bd.2.2.2.2.2.1
  have b6 := bd.2.2.2.2.2.2
  have adr := x.adr
  have hc := b_cntTo_le (pB P) (bnd (pB P))
  refine Con.of (by decide +kernel) (Nat.le_of_ble_eq_true rfl) ?_
  refine mj_aload_n 0 dX10_meanDetourDenominator_0 rfl ?_
  refine mj_getf dX10_meanDetourDenominator_1 fgX10_12 (by repeat (first | assumption | exact mup_s _ _ _ | rw [mup_n _ _ (by omega)])) rfl ?_
  refine mj_cV1 [] (RX0, TX0, 5) dX10_meanDetourDenominator_4 cwX0_driversWithRiders lkX10_278 b0 rfl rfl rfl rfl (cn_X0_driversWithRiders bd) ⟨Nat.le_of_ble_eq_true rfl, Nat.le_of_ble_eq_true rfl, Nat.le_of_ble_eq_true rfl, Nat.le_of_ble_eq_true rfl, Nat.le_of_ble_eq_true rfl⟩ (fun h' e' => ?_)
  subst h'
  refine mj_istore_n (ls' := [(1, _), (0, _)]) dX10_meanDetourDenominator_7 (Nat.le_of_ble_eq_true rfl) rfl ?_
  refine mj_iload_n 0 dX10_meanDetourDenominator_8 rfl ?_
  refine mj_if_ne 16 dX10_meanDetourDenominator_9 (by decide) (fun c_9 => ?_) (fun c_9 => ?_)
  · have z : ¬ b_cnt (pB P) = 0 := fun q => c_9 (by show nI (b_cnt (pB P)) = 0; rw [q]; rfl)
    refine mj_iload_n 0 dX10_meanDetourDenominator_16 rfl ?_
    refine mj_aload_n 1 dX10_meanDetourDenominator_17 rfl ?_
    refine mj_getf dX10_meanDetourDenominator_18 fgX10_12 (by repeat (first | assumption | exact mup_s _ _ _ | rw [mup_n _ _ (by omega)])) rfl ?_
    refine mj_cV1 [] (RX0, TX0, 5) dX10_meanDetourDenominator_21 cwX0_sumOfDetours lkX10_281 b0 rfl rfl rfl rfl (cn_X0_sumOfDetours bd tk) ⟨Nat.le_of_ble_eq_true rfl, Nat.le_of_ble_eq_true rfl, Nat.le_of_ble_eq_true rfl, Nat.le_of_ble_eq_true rfl, Nat.le_of_ble_eq_true rfl⟩ (fun h' e' => ?_)
    subst h'
    refine mj_iload_n 0 dX10_meanDetourDenominator_24 rfl ?_
    refine mj_cS1 [_, _] dX10_meanDetourDenominator_25 cwX10_commonDivisor lkX10_284 rfl (cn_X10_commonDivisor (by show b_cntTo _ _ < 1000; omega)) ⟨Nat.le_of_ble_eq_true rfl, Nat.le_of_ble_eq_true rfl, Nat.le_of_ble_eq_true rfl, Nat.le_of_ble_eq_true rfl, Nat.le_of_ble_eq_true rfl⟩ (fun h' e' => ?_)
    subst h'
    refine mj_idiv dX10_meanDetourDenominator_28 (i_cd_ne0 _ _ (by show b_cntTo _ _ < 1000; omega)) ?_
    exact mj_iret dX10_meanDetourDenominator_29 rfl (Nat.le_of_ble_eq_true rfl) (Nat.le_of_ble_eq_true rfl) ⟨(by unfold b_den; first | rw [if_pos z] | (rw [if_neg z]; rfl)), rfl, rfl⟩
  · have z : b_cnt (pB P) = 0 := by have q := congrArg Int32.toInt c_9; rw [ixn (by show b_cntTo _ _ < _; omega)] at q; have e0 : (0 : Int32).toInt = 0 := rfl; show b_cntTo _ _ = 0; omega
    refine mj_iconst (v := 1) dX10_meanDetourDenominator_12 rfl ?_
    refine mj_goto 29 dX10_meanDetourDenominator_13 (by decide) ?_
    exact mj_iret dX10_meanDetourDenominator_29 rfl (Nat.le_of_ble_eq_true rfl) (Nat.le_of_ble_eq_true rfl) ⟨(by unfold b_den; first | rw [if_pos z] | (rw [if_neg z]; rfl)), rfl, rfl⟩
