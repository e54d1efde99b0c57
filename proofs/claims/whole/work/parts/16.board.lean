-- RIDER, DRIVER: what their methods do to their cell
def RdW (h : MH) (a : Nat) (num : Int32) (X' : RdS) : MH → Prop := fun h' => h' a = some (rdC num X') ∧ Off a (a + 1) h h'
theorem nar_b (b : Bool) : narrow .boolean (.int (bI b)) = .int (bI b) := by cases b <;> rfl
theorem fit_b (b : Bool) : fits .boolean (.int (bI b)) = true := by cases b <;> rfl
set_option maxRecDepth 100000 in
set_option maxHeartbeats 4000000 in
theorem cn_X5_begin {K : KX} {n : Nat} {h : MH} {a : Nat} {num : Int32} {X : RdS} (x : h a = some (rdC num X)) {r d : Int32} : Con K mX5_begin [.ref a, .int r, .int d] 0 0 n h (RetP none n (RdW h a num (qfx X, qfy X, qtx X, qty X, r, d, 0, -1, 0))) := by
  refine Con.of (by decide +kernel) (Nat.le_of_ble_eq_true rfl) ?_
  refine mj_aload_n 0 dX5_begin_0 rfl ?_
  refine mj_iload_n 1 dX5_begin_1 rfl ?_
  refine mj_putf dX5_begin_2 fgX5_18 (by repeat (first | assumption | exact mup_s _ _ _ | rw [mup_n _ _ (by omega)])) rfl rfl rfl (Nat.le_of_ble_eq_true rfl) rfl ?_
  refine mj_aload_n 0 dX5_begin_5 rfl ?_
  refine mj_iload_n 2 dX5_begin_6 rfl ?_
  refine mj_putf dX5_begin_7 fgX5_21 (by repeat (first | assumption | exact mup_s _ _ _ | rw [mup_n _ _ (by omega)])) rfl rfl rfl (Nat.le_of_ble_eq_true rfl) rfl ?_
  refine mj_aload_n 0 dX5_begin_10 rfl ?_
  refine mj_iconst (v := 0) dX5_begin_11 rfl ?_
  refine mj_putf dX5_begin_12 fgX5_24 (by repeat (first | assumption | exact mup_s _ _ _ | rw [mup_n _ _ (by omega)])) rfl rfl rfl (Nat.le_of_ble_eq_true rfl) rfl ?_
  refine mj_aload_n 0 dX5_begin_15 rfl ?_
  refine mj_iconst (v := (-1)) dX5_begin_16 rfl ?_
  refine mj_putf dX5_begin_17 fgX5_9 (by repeat (first | assumption | exact mup_s _ _ _ | rw [mup_n _ _ (by omega)])) rfl rfl rfl (Nat.le_of_ble_eq_true rfl) rfl ?_
  refine mj_aload_n 0 dX5_begin_20 rfl ?_
  refine mj_lconst (v := 0) dX5_begin_21 rfl ?_
  refine mj_putf dX5_begin_22 fgX5_27 (by repeat (first | assumption | exact mup_s _ _ _ | rw [mup_n _ _ (by omega)])) rfl rfl rfl (Nat.le_of_ble_eq_true rfl) rfl ?_
  exact mj_vret dX5_begin_25 rfl (Nat.le_of_ble_eq_true rfl) (Nat.le_of_ble_eq_true rfl) ⟨rfl, rfl, ⟨(by repeat (first | assumption | exact mup_s _ _ _ | rw [mup_n _ _ (by omega)])), (by repeat (first | exact Off.rf | assumption | refine Off.m ?_ _ (by omega) (by omega)))⟩⟩
set_option maxRecDepth 100000 in
set_option maxHeartbeats 4000000 in
theorem cn_X5_setPlaces {K : KX} {n : Nat} {h : MH} {a : Nat} {num : Int32} {X : RdS} (x : h a = some (rdC num X)) {u v w z : Int32} : Con K mX5_setPlaces [.ref a, .int u, .int v, .int w, .int z] 0 0 n h (RetP none n (RdW h a num (u, v, w, z, qrd X, qdl X, qst X, qdr X, qcr X))) := by
  refine Con.of (by decide +kernel) (Nat.le_of_ble_eq_true rfl) ?_
  refine mj_aload_n 0 dX5_setPlaces_0 rfl ?_
  refine mj_iload_n 1 dX5_setPlaces_1 rfl ?_
  refine mj_putf dX5_setPlaces_2 fgX5_31 (by repeat (first | assumption | exact mup_s _ _ _ | rw [mup_n _ _ (by omega)])) rfl rfl rfl (Nat.le_of_ble_eq_true rfl) rfl ?_
  refine mj_aload_n 0 dX5_setPlaces_5 rfl ?_
  refine mj_iload_n 2 dX5_setPlaces_6 rfl ?_
  refine mj_putf dX5_setPlaces_7 fgX5_34 (by repeat (first | assumption | exact mup_s _ _ _ | rw [mup_n _ _ (by omega)])) rfl rfl rfl (Nat.le_of_ble_eq_true rfl) rfl ?_
  refine mj_aload_n 0 dX5_setPlaces_10 rfl ?_
  refine mj_iload_n 3 dX5_setPlaces_11 rfl ?_
  refine mj_putf dX5_setPlaces_12 fgX5_37 (by repeat (first | assumption | exact mup_s _ _ _ | rw [mup_n _ _ (by omega)])) rfl rfl rfl (Nat.le_of_ble_eq_true rfl) rfl ?_
  refine mj_aload_n 0 dX5_setPlaces_15 rfl ?_
  refine mj_iload 4 dX5_setPlaces_16 rfl ?_
  refine mj_putf dX5_setPlaces_18 fgX5_40 (by repeat (first | assumption | exact mup_s _ _ _ | rw [mup_n _ _ (by omega)])) rfl rfl rfl (Nat.le_of_ble_eq_true rfl) rfl ?_
  exact mj_vret dX5_setPlaces_21 rfl (Nat.le_of_ble_eq_true rfl) (Nat.le_of_ble_eq_true rfl) ⟨rfl, rfl, ⟨(by repeat (first | assumption | exact mup_s _ _ _ | rw [mup_n _ _ (by omega)])), (by repeat (first | exact Off.rf | assumption | refine Off.m ?_ _ (by omega) (by omega)))⟩⟩
set_option maxRecDepth 100000 in
set_option maxHeartbeats 4000000 in
theorem cn_X5_copyFrom {K : KX} {n : Nat} {h : MH} {a : Nat} {num : Int32} {X : RdS} (x : h a = some (rdC num X)) {b : Nat} {nb : Int32} {Y : RdS} (y : h b = some (rdC nb Y)) (hd : a ≠ b) : Con K mX5_copyFrom [.ref a, .ref b] 0 0 n h (RetP none n (RdW h a num Y)) := by
  refine Con.of (by decide +kernel) (Nat.le_of_ble_eq_true rfl) ?_
  refine mj_aload_n 0 dX5_copyFrom_0 rfl ?_
  refine mj_aload_n 1 dX5_copyFrom_1 rfl ?_
  refine mj_getf dX5_copyFrom_2 fgX5_18 (by repeat (first | assumption | exact mup_s _ _ _ | rw [mup_n _ _ (by omega)])) rfl ?_
  refine mj_aload_n 1 dX5_copyFrom_5 rfl ?_
  refine mj_getf dX5_copyFrom_6 fgX5_21 (by repeat (first | assumption | exact mup_s _ _ _ | rw [mup_n _ _ (by omega)])) rfl ?_
  refine mj_cV0 [_, _] (RX5, TX5, 10) dX5_copyFrom_9 cwX5_begin lkX5_43 (by repeat (first | assumption | exact mup_s _ _ _ | rw [mup_n _ _ (by omega)])) rfl rfl rfl rfl (cn_X5_begin x) ⟨Nat.le_of_ble_eq_true rfl, Nat.le_of_ble_eq_true rfl, Nat.le_of_ble_eq_true rfl, Nat.le_of_ble_eq_true rfl, Nat.le_of_ble_eq_true rfl⟩ (fun h' e' => ?_)
  obtain ⟨x1, o1⟩ := e'
  have y1 := o1.at y (by omega)
  refine mj_aload_n 0 dX5_copyFrom_12 rfl ?_
  refine mj_aload_n 1 dX5_copyFrom_13 rfl ?_
  refine mj_getf dX5_copyFrom_14 fgX5_31 (by repeat (first | assumption | exact mup_s _ _ _ | rw [mup_n _ _ (by omega)])) rfl ?_
  refine mj_aload_n 1 dX5_copyFrom_17 rfl ?_
  refine mj_getf dX5_copyFrom_18 fgX5_34 (by repeat (first | assumption | exact mup_s _ _ _ | rw [mup_n _ _ (by omega)])) rfl ?_
  refine mj_aload_n 1 dX5_copyFrom_21 rfl ?_
  refine mj_getf dX5_copyFrom_22 fgX5_37 (by repeat (first | assumption | exact mup_s _ _ _ | rw [mup_n _ _ (by omega)])) rfl ?_
  refine mj_aload_n 1 dX5_copyFrom_25 rfl ?_
  refine mj_getf dX5_copyFrom_26 fgX5_40 (by repeat (first | assumption | exact mup_s _ _ _ | rw [mup_n _ _ (by omega)])) rfl ?_
  refine mj_cV0 [_, _, _, _] (RX5, TX5, 10) dX5_copyFrom_29 cwX5_setPlaces lkX5_47 (by repeat (first | assumption | exact mup_s _ _ _ | rw [mup_n _ _ (by omega)])) rfl rfl rfl rfl (cn_X5_setPlaces x1) ⟨Nat.le_of_ble_eq_true rfl, Nat.le_of_ble_eq_true rfl, Nat.le_of_ble_eq_true rfl, Nat.le_of_ble_eq_true rfl, Nat.le_of_ble_eq_true rfl⟩ (fun h' e' => ?_)
  obtain ⟨x2, o2⟩ := e'
  have y2 := o2.at y1 (by omega)
  refine mj_aload_n 0 dX5_copyFrom_32 rfl ?_
  refine mj_aload_n 1 dX5_copyFrom_33 rfl ?_
  refine mj_getf dX5_copyFrom_34 fgX5_24 (by repeat (first | assumption | exact mup_s _ _ _ | rw [mup_n _ _ (by omega)])) rfl ?_
  refine mj_putf dX5_copyFrom_37 fgX5_24 (by repeat (first | assumption | exact mup_s _ _ _ | rw [mup_n _ _ (by omega)])) rfl rfl rfl (Nat.le_of_ble_eq_true rfl) rfl ?_
  refine mj_aload_n 0 dX5_copyFrom_40 rfl ?_
  refine mj_aload_n 1 dX5_copyFrom_41 rfl ?_
  refine mj_getf dX5_copyFrom_42 fgX5_9 (by repeat (first | assumption | exact mup_s _ _ _ | rw [mup_n _ _ (by omega)])) rfl ?_
  refine mj_putf dX5_copyFrom_45 fgX5_9 (by repeat (first | assumption | exact mup_s _ _ _ | rw [mup_n _ _ (by omega)])) rfl rfl rfl (Nat.le_of_ble_eq_true rfl) rfl ?_
  refine mj_aload_n 0 dX5_copyFrom_48 rfl ?_
  refine mj_aload_n 1 dX5_copyFrom_49 rfl ?_
  refine mj_getf dX5_copyFrom_50 fgX5_27 (by repeat (first | assumption | exact mup_s _ _ _ | rw [mup_n _ _ (by omega)])) rfl ?_
  refine mj_putf dX5_copyFrom_53 fgX5_27 (by repeat (first | assumption | exact mup_s _ _ _ | rw [mup_n _ _ (by omega)])) rfl rfl rfl (Nat.le_of_ble_eq_true rfl) rfl ?_
  exact mj_vret dX5_copyFrom_56 rfl (Nat.le_of_ble_eq_true rfl) (Nat.le_of_ble_eq_true rfl) ⟨rfl, rfl, ⟨(by repeat (first | assumption | exact mup_s _ _ _ | rw [mup_n _ _ (by omega)])), (((o1.tr o2).m _ (by omega) (by omega)).m _ (by omega) (by omega)).m _ (by omega) (by omega)⟩⟩
set_option maxRecDepth 100000 in
set_option maxHeartbeats 4000000 in
theorem cn_X5_init {K : KX} {n : Nat} {h : MH} {a : Nat} {i : Int32} (x : h a = some (cO 5 [.int 0, .int 0, .int 0, .int 0, .int 0, .int 0, .int 0, .int 0, .int 0, .long 0])) : Con K mX5_init [.ref a, .int i] 0 0 n h (RetP none n (RdW h a i (0, 0, 0, 0, 0, 0, 0, -1, 0))) := by
  refine Con.of (by decide +kernel) (Nat.le_of_ble_eq_true rfl) ?_
  refine mj_aload_n 0 dX5_init_0 rfl ?_
  refine mj_objInit dX5_init_1 mlX5_3 im_obj cd_obj (Nat.le_of_ble_eq_true rfl) (Nat.le_of_ble_eq_true rfl) ?_
  refine mj_aload_n 0 dX5_init_4 rfl ?_
  refine mj_iconst (v := (-1)) dX5_init_5 rfl ?_
  refine mj_putf dX5_init_6 fgX5_9 (by repeat (first | assumption | exact mup_s _ _ _ | rw [mup_n _ _ (by omega)])) rfl rfl rfl (Nat.le_of_ble_eq_true rfl) rfl ?_
  refine mj_aload_n 0 dX5_init_9 rfl ?_
  refine mj_iload_n 1 dX5_init_10 rfl ?_
  refine mj_putG dX5_init_11 ffX5_15 (by repeat (first | assumption | exact mup_s _ _ _ | rw [mup_n _ _ (by omega)])) rfl rfl (by intro r h9; cases h9; rfl) rfl rfl (Nat.le_of_ble_eq_true rfl) rfl ?_
  exact mj_vret dX5_init_14 rfl (Nat.le_of_ble_eq_true rfl) (Nat.le_of_ble_eq_true rfl) ⟨rfl, rfl, ⟨(by repeat (first | assumption | exact mup_s _ _ _ | rw [mup_n _ _ (by omega)])), (by repeat (first | exact Off.rf | assumption | refine Off.m ?_ _ (by omega) (by omega)))⟩⟩
/-- a driver: object at a, route at a + 1 -/
def Dr (h : MH) (a : Nat) (num : Int32) (D : DS) (T : RS) : Prop := h a = some (drC num a D) ∧ Rt h (a + 1) T
def DrW (h : MH) (a : Nat) (num : Int32) (D : DS) (T : RS) : MH → Prop := fun h' => Dr h' a num D T ∧ Off a (a + 6) h h' 
set_option maxRecDepth 100000 in
set_option maxHeartbeats 4000000 in
theorem cn_X1_begin {K : KX} {n : Nat} {h : MH} {a : Nat} {num : Int32} {D : DS} {T : RS} (x : Dr h a num D T) {se de li ra : Int32} : Con K mX1_begin [.ref a, .int se, .int de, .int li, .int ra] 0 0 n h (RetP none n (DrW h a num (se, de, li, ra, false, 0) (r_begin T 0 0 0 0))) := by
  obtain ⟨x0, r0, r1, r2, r3, r4, r5⟩ := x
  refine Con.of (by decide +kernel) (Nat.le_of_ble_eq_true rfl) ?_
  refine mj_aload_n 0 dX1_begin_0 rfl ?_
  refine mj_iload_n 1 dX1_begin_1 rfl ?_
  refine mj_putf dX1_begin_2 fgX1_20 (by repeat (first | assumption | exact mup_s _ _ _ | rw [mup_n _ _ (by omega)])) rfl rfl rfl (Nat.le_of_ble_eq_true rfl) rfl ?_
  refine mj_aload_n 0 dX1_begin_5 rfl ?_
  refine mj_iload_n 2 dX1_begin_6 rfl ?_
  refine mj_putf dX1_begin_7 fgX1_23 (by repeat (first | assumption | exact mup_s _ _ _ | rw [mup_n _ _ (by omega)])) rfl rfl rfl (Nat.le_of_ble_eq_true rfl) rfl ?_
  refine mj_aload_n 0 dX1_begin_10 rfl ?_
  refine mj_iload_n 3 dX1_begin_11 rfl ?_
  refine mj_putf dX1_begin_12 fgX1_26 (by repeat (first | assumption | exact mup_s _ _ _ | rw [mup_n _ _ (by omega)])) rfl rfl rfl (Nat.le_of_ble_eq_true rfl) rfl ?_
  refine mj_aload_n 0 dX1_begin_15 rfl ?_
  refine mj_iload 4 dX1_begin_16 rfl ?_
  refine mj_putf dX1_begin_18 fgX1_29 (by repeat (first | assumption | exact mup_s _ _ _ | rw [mup_n _ _ (by omega)])) rfl rfl rfl (Nat.le_of_ble_eq_true rfl) rfl ?_
  refine mj_aload_n 0 dX1_begin_21 rfl ?_
  refine mj_iconst (v := 0) dX1_begin_22 rfl ?_
  refine mj_putf dX1_begin_23 fgX1_32 (by repeat (first | assumption | exact mup_s _ _ _ | rw [mup_n _ _ (by omega)])) rfl rfl rfl (Nat.le_of_ble_eq_true rfl) rfl ?_
  refine mj_aload_n 0 dX1_begin_26 rfl ?_
  refine mj_lconst (v := 0) dX1_begin_27 rfl ?_
  refine mj_putf dX1_begin_28 fgX1_36 (by repeat (first | assumption | exact mup_s _ _ _ | rw [mup_n _ _ (by omega)])) rfl rfl rfl (Nat.le_of_ble_eq_true rfl) rfl ?_
  refine mj_aload_n 0 dX1_begin_31 rfl ?_
  refine mj_getf dX1_begin_32 fgX1_10 (by repeat (first | assumption | exact mup_s _ _ _ | rw [mup_n _ _ (by omega)])) rfl ?_
  refine mj_iconst (v := 0) dX1_begin_35 rfl ?_
  refine mj_iconst (v := 0) dX1_begin_36 rfl ?_
  refine mj_iconst (v := 0) dX1_begin_37 rfl ?_
  refine mj_iconst (v := 0) dX1_begin_38 rfl ?_
  refine mj_cV0 [_, _, _, _] (RX6, TX6, 5) dX1_begin_39 cwX6_begin lkX1_40 (by repeat (first | assumption | exact mup_s _ _ _ | rw [mup_n _ _ (by omega)])) rfl rfl rfl rfl (cn_X6_begin ⟨(by repeat (first | assumption | exact mup_s _ _ _ | rw [mup_n _ _ (by omega)])), (by repeat (first | assumption | exact mup_s _ _ _ | rw [mup_n _ _ (by omega)])), (by repeat (first | assumption | exact mup_s _ _ _ | rw [mup_n _ _ (by omega)])), (by repeat (first | assumption | exact mup_s _ _ _ | rw [mup_n _ _ (by omega)])), (by repeat (first | assumption | exact mup_s _ _ _ | rw [mup_n _ _ (by omega)])), r5⟩) ⟨Nat.le_of_ble_eq_true rfl, Nat.le_of_ble_eq_true rfl, Nat.le_of_ble_eq_true rfl, Nat.le_of_ble_eq_true rfl, Nat.le_of_ble_eq_true rfl⟩ (fun h' e' => ?_)
  obtain ⟨q1, q2⟩ := e'
  exact mj_vret dX1_begin_42 rfl (Nat.le_of_ble_eq_true rfl) (Nat.le_of_ble_eq_true rfl) ⟨rfl, rfl, ⟨⟨(q2.at (by repeat (first | assumption | exact mup_s _ _ _ | rw [mup_n _ _ (by omega)])) (by omega)), q1⟩, Off.tr (b := a + 6) (by repeat (first | exact Off.rf | assumption | refine Off.m ?_ _ (by omega) (by omega))) (q2.up (by omega) (by omega))⟩⟩
theorem mup_rt {h : MH} {a b c : Nat} {v w : MC} {T : RS} (r : Rt h a T) (e : a ≠ b ∧ a ≠ c) : mup (mup h b v) c w a = some (cO 6 [.ref (a + 1), .ref (a + 2), .ref (a + 3), .ref (a + 4), .int (nI (rn T))]) := by
  rw [mup_n _ _ e.2, mup_n _ _ e.1]
  exact r.1
set_option maxRecDepth 100000 in
set_option maxHeartbeats 4000000 in
theorem cn_X1_copyFrom {K : KX} {n : Nat} {h : MH} {a : Nat} {num : Int32} {D : DS} {T : RS} (x : Dr h a num D T) {b : Nat} {nb : Int32} {E : DS} {S : RS} (y : Dr h b nb E S) (hd : a + 6 ≤ b ∨ b + 6 ≤ a) : Con K mX1_copyFrom [.ref a, .ref b] 0 0 n h (RetP none n (fun h' => ∃ T', Dr h' a num E T' ∧ Req S T' ∧ Off a (a + 6) h h')) := by
  obtain ⟨y0, yr⟩ := y
  have x0 := x.1
  refine Con.of (by decide +kernel) (Nat.le_of_ble_eq_true rfl) ?_
  refine mj_aload_n 0 dX1_copyFrom_0 rfl ?_
  refine mj_aload_n 1 dX1_copyFrom_1 rfl ?_
  refine mj_getf dX1_copyFrom_2 fgX1_20 (by repeat (first | assumption | exact mup_s _ _ _ | rw [mup_n _ _ (by omega)])) rfl ?_
  refine mj_aload_n 1 dX1_copyFrom_5 rfl ?_
  refine mj_getf dX1_copyFrom_6 fgX1_23 (by repeat (first | assumption | exact mup_s _ _ _ | rw [mup_n _ _ (by omega)])) rfl ?_
  refine mj_aload_n 1 dX1_copyFrom_9 rfl ?_
  refine mj_getf dX1_copyFrom_10 fgX1_26 (by repeat (first | assumption | exact mup_s _ _ _ | rw [mup_n _ _ (by omega)])) rfl ?_
  refine mj_aload_n 1 dX1_copyFrom_13 rfl ?_
  refine mj_getf dX1_copyFrom_14 fgX1_29 (by repeat (first | assumption | exact mup_s _ _ _ | rw [mup_n _ _ (by omega)])) rfl ?_
  refine mj_cV0 [_, _, _, _] (RX1, TX1, 8) dX1_copyFrom_17 cwX1_begin lkX1_44 (by repeat (first | assumption | exact mup_s _ _ _ | rw [mup_n _ _ (by omega)])) rfl rfl rfl rfl (cn_X1_begin x) ⟨Nat.le_of_ble_eq_true rfl, Nat.le_of_ble_eq_true rfl, Nat.le_of_ble_eq_true rfl, Nat.le_of_ble_eq_true rfl, Nat.le_of_ble_eq_true rfl⟩ (fun h' e' => ?_)
  obtain ⟨⟨x1, s1⟩, o1⟩ := e'
  have y1 := o1.at y0 (by omega)
  refine mj_aload_n 0 dX1_copyFrom_20 rfl ?_
  refine mj_aload_n 1 dX1_copyFrom_21 rfl ?_
  refine mj_getf dX1_copyFrom_22 fgX1_32 (by repeat (first | assumption | exact mup_s _ _ _ | rw [mup_n _ _ (by omega)])) rfl ?_
  refine mj_putf dX1_copyFrom_25 fgX1_32 (by repeat (first | assumption | exact mup_s _ _ _ | rw [mup_n _ _ (by omega)])) rfl (nar_b _) (fit_b _) (Nat.le_of_ble_eq_true rfl) rfl ?_
  refine mj_aload_n 0 dX1_copyFrom_28 rfl ?_
  refine mj_aload_n 1 dX1_copyFrom_29 rfl ?_
  refine mj_getf dX1_copyFrom_30 fgX1_36 (by repeat (first | assumption | exact mup_s _ _ _ | rw [mup_n _ _ (by omega)])) rfl ?_
  refine mj_putf dX1_copyFrom_33 fgX1_36 (by repeat (first | assumption | exact mup_s _ _ _ | rw [mup_n _ _ (by omega)])) rfl rfl rfl (Nat.le_of_ble_eq_true rfl) rfl ?_
  refine mj_aload_n 0 dX1_copyFrom_36 rfl ?_
  refine mj_getf dX1_copyFrom_37 fgX1_10 (by repeat (first | assumption | exact mup_s _ _ _ | rw [mup_n _ _ (by omega)])) rfl ?_
  refine mj_aload_n 1 dX1_copyFrom_40 rfl ?_
  refine mj_getf dX1_copyFrom_41 fgX1_10 (by repeat (first | assumption | exact mup_s _ _ _ | rw [mup_n _ _ (by omega)])) rfl ?_
  refine mj_cV0 [_] (RX6, TX6, 5) dX1_copyFrom_44 cwX6_copyFrom lkX1_45 (mup_rt s1 (by omega)) rfl rfl rfl rfl (cn_X6_copyFrom ((s1.off (Off.m0 _ (Nat.le_refl _) (Nat.lt_succ_self _)) (by omega)).off (Off.m0 _ (Nat.le_refl _) (Nat.lt_succ_self _)) (by omega)) (((yr.off o1 (by omega)).off (Off.m0 _ (Nat.le_refl _) (Nat.lt_succ_self _)) (by omega)).off (Off.m0 _ (Nat.le_refl _) (Nat.lt_succ_self _)) (by omega)) (by omega)) ⟨Nat.le_of_ble_eq_true rfl, Nat.le_of_ble_eq_true rfl, Nat.le_of_ble_eq_true rfl, Nat.le_of_ble_eq_true rfl, Nat.le_of_ble_eq_true rfl⟩ (fun h' e' => ?_)
  obtain ⟨T', q1, q2, q3⟩ := e'
  exact mj_vret dX1_copyFrom_47 rfl (Nat.le_of_ble_eq_true rfl) (Nat.le_of_ble_eq_true rfl) ⟨rfl, rfl, ⟨T', ⟨q3.at (by repeat (first | assumption | exact mup_s _ _ _ | rw [mup_n _ _ (by omega)])) (by omega), q1⟩, q2, ((o1.m _ (by omega) (by omega)).m _ (by omega) (by omega)).tr (q3.up (by omega) (by omega))⟩⟩
set_option maxRecDepth 100000 in
set_option maxHeartbeats 4000000 in
theorem cn_X1_init {K : KX} {n : Nat} {h : MH} {a : Nat} {i : Int32} (hn : n = a + 1) (x : h a = some (cO 1 [.int 0, .null, .int 0, .int 0, .int 0, .int 0, .int 0, .long 0])) : Con K mX1_init [.ref a, .int i] 5 173 n h (RetP none (n + 5) (fun h' => ∃ T, Dr h' a i (0, 0, 0, 0, false, 0) T ∧ Off a (a + 6) h h')) := by
  refine Con.of (by decide +kernel) (Nat.le_of_ble_eq_true rfl) ?_
  subst hn
  refine mj_aload_n 0 dX1_init_0 rfl ?_
  refine mj_objInit dX1_init_1 mlX1_1 im_obj cd_obj (Nat.le_of_ble_eq_true rfl) (Nat.le_of_ble_eq_true rfl) ?_
  refine mj_aload_n 0 dX1_init_4 rfl ?_
  refine mj_new (fs := [.null, .null, .null, .null, .int 0]) dX1_init_5 nfX1_7 (fun j hj => by match j, hj with | 0, _ => rfl | 1, _ => rfl | 2, _ => rfl | 3, _ => rfl | 4, _ => rfl | j + 5, h9 => exact absurd h9 (by omega)) (Nat.le_of_ble_eq_true rfl) (Nat.le_of_ble_eq_true rfl) ?_
  refine mj_dup dX1_init_8 rfl ?_
  refine mj_cI0 [] dX1_init_9 cwX6_init lkX1_9 rfl rfl (cn_X6_init rfl (by repeat (first | assumption | exact mup_s _ _ _ | rw [mup_n _ _ (by omega)]))) ⟨Nat.le_of_ble_eq_true rfl, Nat.le_of_ble_eq_true rfl, Nat.le_of_ble_eq_true rfl, Nat.le_of_ble_eq_true rfl, Nat.le_of_ble_eq_true rfl⟩ (fun h' e' => ?_)
  obtain ⟨T, q1, q2⟩ := e'
  have x1 := q2.at (q := a) (by repeat (first | assumption | exact mup_s _ _ _ | rw [mup_n _ _ (by omega)])) (by omega)
  refine mj_putG dX1_init_12 ffX1_10 (by repeat (first | assumption | exact mup_s _ _ _ | rw [mup_n _ _ (by omega)])) rfl rfl (by intro r h9; cases h9; rfl) rfl rfl (Nat.le_of_ble_eq_true rfl) rfl ?_
  refine mj_aload_n 0 dX1_init_15 rfl ?_
  refine mj_iload_n 1 dX1_init_16 rfl ?_
  refine mj_putG dX1_init_17 ffX1_16 (by repeat (first | assumption | exact mup_s _ _ _ | rw [mup_n _ _ (by omega)])) rfl rfl (by intro r h9; cases h9; rfl) rfl rfl (Nat.le_of_ble_eq_true rfl) rfl ?_
  exact mj_vret dX1_init_20 rfl (Nat.le_of_ble_eq_true rfl) (Nat.le_of_ble_eq_true rfl) ⟨rfl, rfl, ⟨T, ⟨(by repeat (first | assumption | exact mup_s _ _ _ | rw [mup_n _ _ (by omega)])), (q1.off (Off.m0 _ (Nat.le_refl _) (Nat.lt_succ_self _)) (by omega)).off (Off.m0 _ (Nat.le_refl _) (Nat.lt_succ_self _)) (by omega)⟩, (((Off.m0 _ (by omega) (by omega)).tr (q2.up (by omega) (by omega))).m _ (by omega) (by omega)).m _ (by omega) (by omega)⟩⟩
