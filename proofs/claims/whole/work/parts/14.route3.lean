-- riders and drivers
abbrev RdS : Type := Int32 × Int32 × Int32 × Int32 × Int32 × Int32 × Int32 × Int32 × Int64
abbrev qfx (X : RdS) : Int32 := X.1
abbrev qfy (X : RdS) : Int32 := X.2.1
abbrev qtx (X : RdS) : Int32 := X.2.2.1
abbrev qty (X : RdS) : Int32 := X.2.2.2.1
abbrev qrd (X : RdS) : Int32 := X.2.2.2.2.1
abbrev qdl (X : RdS) : Int32 := X.2.2.2.2.2.1
abbrev qst (X : RdS) : Int32 := X.2.2.2.2.2.2.1
abbrev qdr (X : RdS) : Int32 := X.2.2.2.2.2.2.2.1
abbrev qcr (X : RdS) : Int64 := X.2.2.2.2.2.2.2.2
def rdC (num : Int32) (X : RdS) : MC := cO 5 [.int num, .int (qfx X), .int (qfy X), .int (qtx X), .int (qty X), .int (qrd X), .int (qdl X), .int (qst X), .int (qdr X), .long (qcr X)]
abbrev DS : Type := Int32 × Int32 × Int32 × Int32 × Bool × Int64
abbrev dse (D : DS) : Int32 := D.1
abbrev dde (D : DS) : Int32 := D.2.1
abbrev dli (D : DS) : Int32 := D.2.2.1
abbrev dra (D : DS) : Int32 := D.2.2.2.1
abbrev ddo (D : DS) : Bool := D.2.2.2.2.1
abbrev dcr (D : DS) : Int64 := D.2.2.2.2.2
def drC (num : Int32) (a : Nat) (D : DS) : MC := cO 1 [.int num, .ref (a + 1), .int (dse D), .int (dde D), .int (dli D), .int (dra D), .int (bI (ddo D)), .long (dcr D)]
/-- by how much an insertion makes the route longer -/
def r_lng (R : RS) (X : RdS) (i j : Nat) : Int32 :=
  if i = j then k_dist (rx R i) (ry R i) (qfx X) (qfy X) + k_dist (qfx X) (qfy X) (qtx X) (qty X) + k_dist (rx R (j + 1)) (ry R (j + 1)) (qtx X) (qty X) - r_step R i (i + 1)
  else k_dist (rx R i) (ry R i) (qfx X) (qfy X) + k_dist (rx R (i + 1)) (ry R (i + 1)) (qfx X) (qfy X) - r_step R i (i + 1) + k_dist (rx R j) (ry R j) (qtx X) (qty X) + k_dist (rx R (j + 1)) (ry R (j + 1)) (qtx X) (qty X) - r_step R j (j + 1)
set_option maxRecDepth 100000 in
set_option maxHeartbeats 4000000 in
theorem cn_X6_lengthening {K : KX} {n : Nat} {h : MH} {a : Nat} {R : RS} (r : Rt h a R) {q i j : Nat} {num : Int32} {X : RdS} (hX : h q = some (rdC num X)) (hi : i + 1 < 42) (hj : j + 1 < 42) : Con K mX6_lengthening [.ref a, .ref q, .int (nI i), .int (nI j)] 0 0 n h (Ret (some (.int (r_lng R X i j))) n h) := by
  obtain ⟨r0, r1, r2, r3, r4, r5⟩ := r
  refine Con.of (by decide +kernel) (Nat.le_of_ble_eq_true rfl) ?_
  refine mj_aload_n 0 dX6_lengthening_0 rfl ?_
  refine mj_iload_n 2 dX6_lengthening_1 rfl ?_
  refine mj_aload_n 1 dX6_lengthening_2 rfl ?_
  refine mj_getf dX6_lengthening_3 fgX6_80 (by repeat (first | assumption | exact mup_s _ _ _ | rw [mup_n _ _ (by omega)])) rfl ?_
  refine mj_aload_n 1 dX6_lengthening_6 rfl ?_
  refine mj_getf dX6_lengthening_7 fgX6_85 (by repeat (first | assumption | exact mup_s _ _ _ | rw [mup_n _ _ (by omega)])) rfl ?_
  refine mj_cV1 [_, _, _] (RX6, TX6, 5) dX6_lengthening_10 cwX6_toPlace lkX6_88 (by repeat (first | assumption | exact mup_s _ _ _ | rw [mup_n _ _ (by omega)])) rfl rfl rfl rfl (cn_X6_toPlace ⟨r0, r1, r2, r3, r4, r5⟩ (ixn (by omega)) (by omega)) ⟨Nat.le_of_ble_eq_true rfl, Nat.le_of_ble_eq_true rfl, Nat.le_of_ble_eq_true rfl, Nat.le_of_ble_eq_true rfl, Nat.le_of_ble_eq_true rfl⟩ (fun h' e' => ?_)
  subst e'
  refine mj_istore (ls' := [(4, _), (0, _), (1, _), (2, _), (3, _)]) dX6_lengthening_13 (Nat.le_of_ble_eq_true rfl) rfl ?_
  refine mj_aload_n 1 dX6_lengthening_15 rfl ?_
  refine mj_iload_n 4 dX6_lengthening_16 rfl ?_
  refine mj_iconst (v := 1) dX6_lengthening_17 rfl ?_
  refine mj_iadd dX6_lengthening_18 ?_
  refine mj_eq (nI_1 _) ?_
  refine mj_aload_n 2 dX6_lengthening_19 rfl ?_
  refine mj_getf dX6_lengthening_20 fgX6_92 (by repeat (first | assumption | exact mup_s _ _ _ | rw [mup_n _ _ (by omega)])) rfl ?_
  refine mj_aload_n 2 dX6_lengthening_23 rfl ?_
  refine mj_getf dX6_lengthening_24 fgX6_95 (by repeat (first | assumption | exact mup_s _ _ _ | rw [mup_n _ _ (by omega)])) rfl ?_
  refine mj_cV1 [_, _, _] (RX6, TX6, 5) dX6_lengthening_27 cwX6_toPlace lkX6_88 (by repeat (first | assumption | exact mup_s _ _ _ | rw [mup_n _ _ (by omega)])) rfl rfl rfl rfl (cn_X6_toPlace ⟨r0, r1, r2, r3, r4, r5⟩ (ixn (by omega)) (by omega)) ⟨Nat.le_of_ble_eq_true rfl, Nat.le_of_ble_eq_true rfl, Nat.le_of_ble_eq_true rfl, Nat.le_of_ble_eq_true rfl, Nat.le_of_ble_eq_true rfl⟩ (fun h' e' => ?_)
  subst e'
  refine mj_istore (ls' := [(5, _), (4, _), (0, _), (1, _), (2, _), (3, _)]) dX6_lengthening_30 (Nat.le_of_ble_eq_true rfl) rfl ?_
  refine mj_iload_n 4 dX6_lengthening_32 rfl ?_
  refine mj_iload_n 5 dX6_lengthening_33 rfl ?_
  refine mj_icmp_ne 72 dX6_lengthening_34 (by decide) (fun c_34 => ?_) (fun c_34 => ?_)
  · have e5 : ¬ i = j := fun e9 => c_34 (by rw [e9])
    refine mj_aload_n 2 dX6_lengthening_72 rfl ?_
    refine mj_iload_n 4 dX6_lengthening_73 rfl ?_
    refine mj_iconst (v := 1) dX6_lengthening_74 rfl ?_
    refine mj_iadd dX6_lengthening_75 ?_
    refine mj_eq (nI_1 _) ?_
    refine mj_aload_n 3 dX6_lengthening_76 rfl ?_
    refine mj_getf dX6_lengthening_77 fgX6_80 (by repeat (first | assumption | exact mup_s _ _ _ | rw [mup_n _ _ (by omega)])) rfl ?_
    refine mj_aload_n 3 dX6_lengthening_80 rfl ?_
    refine mj_getf dX6_lengthening_81 fgX6_85 (by repeat (first | assumption | exact mup_s _ _ _ | rw [mup_n _ _ (by omega)])) rfl ?_
    refine mj_cV1 [_, _, _] (RX6, TX6, 5) dX6_lengthening_84 cwX6_toPlace lkX6_88 (by repeat (first | assumption | exact mup_s _ _ _ | rw [mup_n _ _ (by omega)])) rfl rfl rfl rfl (cn_X6_toPlace ⟨r0, r1, r2, r3, r4, r5⟩ (ixn (by omega)) (by omega)) ⟨Nat.le_of_ble_eq_true rfl, Nat.le_of_ble_eq_true rfl, Nat.le_of_ble_eq_true rfl, Nat.le_of_ble_eq_true rfl, Nat.le_of_ble_eq_true rfl⟩ (fun h' e' => ?_)
    subst e'
    refine mj_istore (ls' := [(6, _), (5, _), (4, _), (0, _), (1, _), (2, _), (3, _)]) dX6_lengthening_87 (Nat.le_of_ble_eq_true rfl) rfl ?_
    refine mj_aload_n 3 dX6_lengthening_89 rfl ?_
    refine mj_iload_n 6 dX6_lengthening_90 rfl ?_
    refine mj_aload_n 4 dX6_lengthening_91 rfl ?_
    refine mj_getf dX6_lengthening_92 fgX6_92 (by repeat (first | assumption | exact mup_s _ _ _ | rw [mup_n _ _ (by omega)])) rfl ?_
    refine mj_aload_n 4 dX6_lengthening_95 rfl ?_
    refine mj_getf dX6_lengthening_96 fgX6_95 (by repeat (first | assumption | exact mup_s _ _ _ | rw [mup_n _ _ (by omega)])) rfl ?_
    refine mj_cV1 [_, _, _] (RX6, TX6, 5) dX6_lengthening_99 cwX6_toPlace lkX6_88 (by repeat (first | assumption | exact mup_s _ _ _ | rw [mup_n _ _ (by omega)])) rfl rfl rfl rfl (cn_X6_toPlace ⟨r0, r1, r2, r3, r4, r5⟩ (ixn (by omega)) (by omega)) ⟨Nat.le_of_ble_eq_true rfl, Nat.le_of_ble_eq_true rfl, Nat.le_of_ble_eq_true rfl, Nat.le_of_ble_eq_true rfl, Nat.le_of_ble_eq_true rfl⟩ (fun h' e' => ?_)
    subst e'
    refine mj_istore (ls' := [(7, _), (6, _), (5, _), (4, _), (0, _), (1, _), (2, _), (3, _)]) dX6_lengthening_102 (Nat.le_of_ble_eq_true rfl) rfl ?_
    refine mj_iload 3 dX6_lengthening_104 rfl ?_
    refine mj_iload 1 dX6_lengthening_106 rfl ?_
    refine mj_iadd dX6_lengthening_108 ?_
    refine mj_aload_n 4 dX6_lengthening_109 rfl ?_
    refine mj_iload_n 6 dX6_lengthening_110 rfl ?_
    refine mj_iload_n 6 dX6_lengthening_111 rfl ?_
    refine mj_iconst (v := 1) dX6_lengthening_112 rfl ?_
    refine mj_iadd dX6_lengthening_113 ?_
    refine mj_eq (nI_1 _) ?_
    refine mj_cV1 [_, _] (RX6, TX6, 5) dX6_lengthening_114 cwX6_step lkX6_54 (by repeat (first | assumption | exact mup_s _ _ _ | rw [mup_n _ _ (by omega)])) rfl rfl rfl rfl (cn_X6_step ⟨r0, r1, r2, r3, r4, r5⟩ (ixn (by omega)) (by omega) (ixn (by omega)) (by omega)) ⟨Nat.le_of_ble_eq_true rfl, Nat.le_of_ble_eq_true rfl, Nat.le_of_ble_eq_true rfl, Nat.le_of_ble_eq_true rfl, Nat.le_of_ble_eq_true rfl⟩ (fun h' e' => ?_)
    subst e'
    refine mj_isub dX6_lengthening_117 ?_
    refine mj_iload 0 dX6_lengthening_118 rfl ?_
    refine mj_iadd dX6_lengthening_120 ?_
    refine mj_iload 2 dX6_lengthening_121 rfl ?_
    refine mj_iadd dX6_lengthening_123 ?_
    refine mj_aload_n 4 dX6_lengthening_124 rfl ?_
    refine mj_iload_n 7 dX6_lengthening_125 rfl ?_
    refine mj_iload_n 7 dX6_lengthening_126 rfl ?_
    refine mj_iconst (v := 1) dX6_lengthening_127 rfl ?_
    refine mj_iadd dX6_lengthening_128 ?_
    refine mj_eq (nI_1 _) ?_
    refine mj_cV1 [_, _] (RX6, TX6, 5) dX6_lengthening_129 cwX6_step lkX6_54 (by repeat (first | assumption | exact mup_s _ _ _ | rw [mup_n _ _ (by omega)])) rfl rfl rfl rfl (cn_X6_step ⟨r0, r1, r2, r3, r4, r5⟩ (ixn (by omega)) (by omega) (ixn (by omega)) (by omega)) ⟨Nat.le_of_ble_eq_true rfl, Nat.le_of_ble_eq_true rfl, Nat.le_of_ble_eq_true rfl, Nat.le_of_ble_eq_true rfl, Nat.le_of_ble_eq_true rfl⟩ (fun h' e' => ?_)
    subst e'
    refine mj_isub dX6_lengthening_132 ?_
    exact mj_iret dX6_lengthening_133 rfl (Nat.le_of_ble_eq_true rfl) (Nat.le_of_ble_eq_true rfl) ⟨(by simp [r_lng, e5]), rfl, rfl⟩
  · have e5 : i = j := (nI_eq (by omega) (by omega)).mp c_34
    refine mj_iload 1 dX6_lengthening_37 rfl ?_
    refine mj_aload_n 3 dX6_lengthening_39 rfl ?_
    refine mj_getf dX6_lengthening_40 fgX6_80 (by repeat (first | assumption | exact mup_s _ _ _ | rw [mup_n _ _ (by omega)])) rfl ?_
    refine mj_aload_n 3 dX6_lengthening_43 rfl ?_
    refine mj_getf dX6_lengthening_44 fgX6_85 (by repeat (first | assumption | exact mup_s _ _ _ | rw [mup_n _ _ (by omega)])) rfl ?_
    refine mj_aload_n 3 dX6_lengthening_47 rfl ?_
    refine mj_getf dX6_lengthening_48 fgX6_92 (by repeat (first | assumption | exact mup_s _ _ _ | rw [mup_n _ _ (by omega)])) rfl ?_
    refine mj_aload_n 3 dX6_lengthening_51 rfl ?_
    refine mj_getf dX6_lengthening_52 fgX6_95 (by repeat (first | assumption | exact mup_s _ _ _ | rw [mup_n _ _ (by omega)])) rfl ?_
    refine mj_cS1 [_, _, _, _] dX6_lengthening_55 cwX10_distance lkX6_50 rfl (cn_X10_distance _ _ _ _) ⟨Nat.le_of_ble_eq_true rfl, Nat.le_of_ble_eq_true rfl, Nat.le_of_ble_eq_true rfl, Nat.le_of_ble_eq_true rfl, Nat.le_of_ble_eq_true rfl⟩ (fun h' e' => ?_)
    subst e'
    refine mj_iadd dX6_lengthening_58 ?_
    refine mj_iload 0 dX6_lengthening_59 rfl ?_
    refine mj_iadd dX6_lengthening_61 ?_
    refine mj_aload_n 2 dX6_lengthening_62 rfl ?_
    refine mj_iload_n 4 dX6_lengthening_63 rfl ?_
    refine mj_iload_n 4 dX6_lengthening_64 rfl ?_
    refine mj_iconst (v := 1) dX6_lengthening_65 rfl ?_
    refine mj_iadd dX6_lengthening_66 ?_
    refine mj_eq (nI_1 _) ?_
    refine mj_cV1 [_, _] (RX6, TX6, 5) dX6_lengthening_67 cwX6_step lkX6_54 (by repeat (first | assumption | exact mup_s _ _ _ | rw [mup_n _ _ (by omega)])) rfl rfl rfl rfl (cn_X6_step ⟨r0, r1, r2, r3, r4, r5⟩ (ixn (by omega)) (by omega) (ixn (by omega)) (by omega)) ⟨Nat.le_of_ble_eq_true rfl, Nat.le_of_ble_eq_true rfl, Nat.le_of_ble_eq_true rfl, Nat.le_of_ble_eq_true rfl, Nat.le_of_ble_eq_true rfl⟩ (fun h' e' => ?_)
    subst e'
    refine mj_isub dX6_lengthening_70 ?_
    exact mj_iret dX6_lengthening_71 rfl (Nat.le_of_ble_eq_true rfl) (Nat.le_of_ble_eq_true rfl) ⟨(by simp [r_lng, e5]), rfl, rfl⟩
/-- stop j is written -/
def r_set (R : RS) (j : Nat) (c x y t : Int32) : RS := (rn R, upd (rc R) j c, upd (rx R) j x, upd (ry R) j y, upd (rt R) j t)
def RtW (h : MH) (a : Nat) (R' : RS) : MH → Prop := fun h' => Rt h' a R' ∧ Off a (a + 5) h h' 
set_option maxRecDepth 100000 in
set_option maxHeartbeats 4000000 in
theorem cn_X6_setStop {K : KX} {n : Nat} {h : MH} {a : Nat} {R : RS} (r : Rt h a R) {j : Nat} {i c x y t : Int32} (hi : i.toInt = (j : Int)) (hj : j < 42) : Con K mX6_setStop [.ref a, .int i, .int c, .int x, .int y, .int t] 0 0 n h (RetP none n (RtW h a (r_set R j c x y t))) := by
  obtain ⟨r0, r1, r2, r3, r4, r5⟩ := r
  refine Con.of (by decide +kernel) (Nat.le_of_ble_eq_true rfl) ?_
  refine mj_aload_n 0 dX6_setStop_0 rfl ?_
  refine mj_getf dX6_setStop_1 fgX6_9 (by repeat (first | assumption | exact mup_s _ _ _ | rw [mup_n _ _ (by omega)])) rfl ?_
  refine mj_iload_n 1 dX6_setStop_4 rfl ?_
  refine mj_iload_n 2 dX6_setStop_5 rfl ?_
  refine mj_iast (by repeat (first | assumption | exact mup_s _ _ _ | rw [mup_n _ _ (by omega)])) (by first | assumption | rfl | exact ixn (by omega)) (by first | assumption | decide | omega) dX6_setStop_6 ?_
  refine mj_aload_n 0 dX6_setStop_7 rfl ?_
  refine mj_getf dX6_setStop_8 fgX6_15 (by repeat (first | assumption | exact mup_s _ _ _ | rw [mup_n _ _ (by omega)])) rfl ?_
  refine mj_iload_n 1 dX6_setStop_11 rfl ?_
  refine mj_iload_n 3 dX6_setStop_12 rfl ?_
  refine mj_iast (by repeat (first | assumption | exact mup_s _ _ _ | rw [mup_n _ _ (by omega)])) (by first | assumption | rfl | exact ixn (by omega)) (by first | assumption | decide | omega) dX6_setStop_13 ?_
  refine mj_aload_n 0 dX6_setStop_14 rfl ?_
  refine mj_getf dX6_setStop_15 fgX6_18 (by repeat (first | assumption | exact mup_s _ _ _ | rw [mup_n _ _ (by omega)])) rfl ?_
  refine mj_iload_n 1 dX6_setStop_18 rfl ?_
  refine mj_iload 4 dX6_setStop_19 rfl ?_
  refine mj_iast (by repeat (first | assumption | exact mup_s _ _ _ | rw [mup_n _ _ (by omega)])) (by first | assumption | rfl | exact ixn (by omega)) (by first | assumption | decide | omega) dX6_setStop_21 ?_
  refine mj_aload_n 0 dX6_setStop_22 rfl ?_
  refine mj_getf dX6_setStop_23 fgX6_21 (by repeat (first | assumption | exact mup_s _ _ _ | rw [mup_n _ _ (by omega)])) rfl ?_
  refine mj_iload_n 1 dX6_setStop_26 rfl ?_
  refine mj_iload 5 dX6_setStop_27 rfl ?_
  refine mj_iast (by repeat (first | assumption | exact mup_s _ _ _ | rw [mup_n _ _ (by omega)])) (by first | assumption | rfl | exact ixn (by omega)) (by first | assumption | decide | omega) dX6_setStop_29 ?_
  exact mj_vret dX6_setStop_30 rfl (Nat.le_of_ble_eq_true rfl) (Nat.le_of_ble_eq_true rfl) ⟨rfl, rfl, ⟨⟨(by repeat (first | assumption | exact mup_s _ _ _ | rw [mup_n _ _ (by omega)])), (by repeat (first | assumption | exact mup_s _ _ _ | rw [mup_n _ _ (by omega)])), (by repeat (first | assumption | exact mup_s _ _ _ | rw [mup_n _ _ (by omega)])), (by repeat (first | assumption | exact mup_s _ _ _ | rw [mup_n _ _ (by omega)])), (by repeat (first | assumption | exact mup_s _ _ _ | rw [mup_n _ _ (by omega)])), r5⟩, ((((Off.m0 _ (by omega) (by omega)).m _ (by omega) (by omega)).m _ (by omega) (by omega)).m _ (by omega) (by omega))⟩⟩
set_option maxRecDepth 100000 in
set_option maxHeartbeats 4000000 in
theorem cn_X6_moveStop {K : KX} {n : Nat} {h : MH} {a : Nat} {R : RS} (r : Rt h a R) {j l : Nat} {i m : Int32} (hi : i.toInt = (j : Int)) (hj : j < 42) (hm : m.toInt = (l : Int)) (hl : l < 42) : Con K mX6_moveStop [.ref a, .int i, .int m] 0 0 n h (RetP none n (RtW h a (r_set R l (rc R j) (rx R j) (ry R j) (rt R j)))) := by
  obtain ⟨r0, r1, r2, r3, r4, r5⟩ := r
  refine Con.of (by decide +kernel) (Nat.le_of_ble_eq_true rfl) ?_
  refine mj_aload_n 0 dX6_moveStop_0 rfl ?_
  refine mj_iload_n 2 dX6_moveStop_1 rfl ?_
  refine mj_aload_n 0 dX6_moveStop_2 rfl ?_
  refine mj_getf dX6_moveStop_3 fgX6_9 (by repeat (first | assumption | exact mup_s _ _ _ | rw [mup_n _ _ (by omega)])) rfl ?_
  refine mj_iload_n 1 dX6_moveStop_6 rfl ?_
  refine mj_iald (by repeat (first | assumption | exact mup_s _ _ _ | rw [mup_n _ _ (by omega)])) (by first | assumption | rfl | exact ixn (by omega)) (by first | assumption | decide | omega) dX6_moveStop_7 ?_
  refine mj_aload_n 0 dX6_moveStop_8 rfl ?_
  refine mj_getf dX6_moveStop_9 fgX6_15 (by repeat (first | assumption | exact mup_s _ _ _ | rw [mup_n _ _ (by omega)])) rfl ?_
  refine mj_iload_n 1 dX6_moveStop_12 rfl ?_
  refine mj_iald (by repeat (first | assumption | exact mup_s _ _ _ | rw [mup_n _ _ (by omega)])) (by first | assumption | rfl | exact ixn (by omega)) (by first | assumption | decide | omega) dX6_moveStop_13 ?_
  refine mj_aload_n 0 dX6_moveStop_14 rfl ?_
  refine mj_getf dX6_moveStop_15 fgX6_18 (by repeat (first | assumption | exact mup_s _ _ _ | rw [mup_n _ _ (by omega)])) rfl ?_
  refine mj_iload_n 1 dX6_moveStop_18 rfl ?_
  refine mj_iald (by repeat (first | assumption | exact mup_s _ _ _ | rw [mup_n _ _ (by omega)])) (by first | assumption | rfl | exact ixn (by omega)) (by first | assumption | decide | omega) dX6_moveStop_19 ?_
  refine mj_aload_n 0 dX6_moveStop_20 rfl ?_
  refine mj_getf dX6_moveStop_21 fgX6_21 (by repeat (first | assumption | exact mup_s _ _ _ | rw [mup_n _ _ (by omega)])) rfl ?_
  refine mj_iload_n 1 dX6_moveStop_24 rfl ?_
  refine mj_iald (by repeat (first | assumption | exact mup_s _ _ _ | rw [mup_n _ _ (by omega)])) (by first | assumption | rfl | exact ixn (by omega)) (by first | assumption | decide | omega) dX6_moveStop_25 ?_
  refine mj_cV0 [_, _, _, _, _] (RX6, TX6, 5) dX6_moveStop_26 cwX6_setStop lkX6_28 (by repeat (first | assumption | exact mup_s _ _ _ | rw [mup_n _ _ (by omega)])) rfl rfl rfl rfl (cn_X6_setStop ⟨r0, r1, r2, r3, r4, r5⟩ hm hl) ⟨Nat.le_of_ble_eq_true rfl, Nat.le_of_ble_eq_true rfl, Nat.le_of_ble_eq_true rfl, Nat.le_of_ble_eq_true rfl, Nat.le_of_ble_eq_true rfl⟩ (fun h' e' => ?_)
  exact mj_vret dX6_moveStop_29 rfl (Nat.le_of_ble_eq_true rfl) (Nat.le_of_ble_eq_true rfl) ⟨rfl, rfl, e'⟩
def r_begin (R : RS) (sx sy ex ey : Int32) : RS := (2, upd (upd (rc R) 0 (-1)) 1 (-1), upd (upd (rx R) 0 sx) 1 ex, upd (upd (ry R) 0 sy) 1 ey, upd (upd (rt R) 0 0) 1 0)
set_option maxRecDepth 100000 in
set_option maxHeartbeats 4000000 in
theorem cn_X6_begin {K : KX} {n : Nat} {h : MH} {a : Nat} {R : RS} (r : Rt h a R) {sx sy ex ey : Int32} : Con K mX6_begin [.ref a, .int sx, .int sy, .int ex, .int ey] 0 0 n h (RetP none n (RtW h a (r_begin R sx sy ex ey))) := by
  obtain ⟨r0, r1, r2, r3, r4, r5⟩ := r
  refine Con.of (by decide +kernel) (Nat.le_of_ble_eq_true rfl) ?_
  refine mj_aload_n 0 dX6_begin_0 rfl ?_
  refine mj_iconst (v := 0) dX6_begin_1 rfl ?_
  refine mj_iconst (v := (-1)) dX6_begin_2 rfl ?_
  refine mj_iload_n 1 dX6_begin_3 rfl ?_
  refine mj_iload_n 2 dX6_begin_4 rfl ?_
  refine mj_iconst (v := 0) dX6_begin_5 rfl ?_
  refine mj_cV0 [_, _, _, _, _] (RX6, TX6, 5) dX6_begin_6 cwX6_setStop lkX6_28 (by repeat (first | assumption | exact mup_s _ _ _ | rw [mup_n _ _ (by omega)])) rfl rfl rfl rfl (cn_X6_setStop ⟨r0, r1, r2, r3, r4, r5⟩ (j := 0) rfl (by omega)) ⟨Nat.le_of_ble_eq_true rfl, Nat.le_of_ble_eq_true rfl, Nat.le_of_ble_eq_true rfl, Nat.le_of_ble_eq_true rfl, Nat.le_of_ble_eq_true rfl⟩ (fun h' e' => ?_)
  obtain ⟨⟨r0, r1, r2, r3, r4, r5⟩, o1⟩ := e'
  refine mj_aload_n 0 dX6_begin_9 rfl ?_
  refine mj_iconst (v := 1) dX6_begin_10 rfl ?_
  refine mj_iconst (v := (-1)) dX6_begin_11 rfl ?_
  refine mj_iload_n 3 dX6_begin_12 rfl ?_
  refine mj_iload 4 dX6_begin_13 rfl ?_
  refine mj_iconst (v := 0) dX6_begin_15 rfl ?_
  refine mj_cV0 [_, _, _, _, _] (RX6, TX6, 5) dX6_begin_16 cwX6_setStop lkX6_28 (by repeat (first | assumption | exact mup_s _ _ _ | rw [mup_n _ _ (by omega)])) rfl rfl rfl rfl (cn_X6_setStop ⟨r0, r1, r2, r3, r4, r5⟩ (j := 1) rfl (by omega)) ⟨Nat.le_of_ble_eq_true rfl, Nat.le_of_ble_eq_true rfl, Nat.le_of_ble_eq_true rfl, Nat.le_of_ble_eq_true rfl, Nat.le_of_ble_eq_true rfl⟩ (fun h' e' => ?_)
  obtain ⟨⟨r0, r1, r2, r3, r4, r5⟩, o2⟩ := e'
  refine mj_aload_n 0 dX6_begin_19 rfl ?_
  refine mj_iconst (v := 2) dX6_begin_20 rfl ?_
  refine mj_putf dX6_begin_21 fgX6_32 (by repeat (first | assumption | exact mup_s _ _ _ | rw [mup_n _ _ (by omega)])) rfl rfl rfl (Nat.le_of_ble_eq_true rfl) rfl ?_
  exact mj_vret dX6_begin_24 rfl (Nat.le_of_ble_eq_true rfl) (Nat.le_of_ble_eq_true rfl) ⟨rfl, rfl, ⟨⟨(by repeat (first | assumption | exact mup_s _ _ _ | rw [mup_n _ _ (by omega)])), (by repeat (first | assumption | exact mup_s _ _ _ | rw [mup_n _ _ (by omega)])), (by repeat (first | assumption | exact mup_s _ _ _ | rw [mup_n _ _ (by omega)])), (by repeat (first | assumption | exact mup_s _ _ _ | rw [mup_n _ _ (by omega)])), (by repeat (first | assumption | exact mup_s _ _ _ | rw [mup_n _ _ (by omega)])), (by show 2 ≤ 42; omega)⟩, (o1.tr o2).m _ (by omega) (by omega)⟩⟩
set_option maxRecDepth 100000 in
set_option maxHeartbeats 4000000 in
theorem cn_X6_init {K : KX} {n : Nat} {h : MH} {a : Nat} (hn : n = a + 1) (hh : h a = some (cO 6 [.null, .null, .null, .null, .int 0])) : Con K mX6_init [.ref a] 4 168 n h (RetP none (n + 4) (fun h' => ∃ R, Rt h' a R ∧ Off a (a + 5) h h')) := by
  refine Con.of (by decide +kernel) (Nat.le_of_ble_eq_true rfl) ?_
  subst hn
  refine mj_aload_n 0 dX6_init_0 rfl ?_
  refine mj_objInit dX6_init_1 mlX6_3 im_obj cd_obj (Nat.le_of_ble_eq_true rfl) (Nat.le_of_ble_eq_true rfl) ?_
  refine mj_aload_n 0 dX6_init_4 rfl ?_
  refine mj_bipush (v := (42)) dX6_init_5 rfl ?_
  refine mj_newaI dX6_init_7 ac_int (by decide : (42 : Int32).toInt = ((42 : Nat) : Int)) (by omega) (Nat.le_of_ble_eq_true rfl) (Nat.le_of_ble_eq_true rfl) ?_
  refine mj_putG dX6_init_9 ffX6_9 (by repeat (first | assumption | exact mup_s _ _ _ | rw [mup_n _ _ (by omega)])) rfl rfl (by intro r h9; cases h9; rfl) rfl rfl (Nat.le_of_ble_eq_true rfl) rfl ?_
  refine mj_aload_n 0 dX6_init_12 rfl ?_
  refine mj_bipush (v := (42)) dX6_init_13 rfl ?_
  refine mj_newaI dX6_init_15 ac_int (by decide : (42 : Int32).toInt = ((42 : Nat) : Int)) (by omega) (Nat.le_of_ble_eq_true rfl) (Nat.le_of_ble_eq_true rfl) ?_
  refine mj_putG dX6_init_17 ffX6_15 (by repeat (first | assumption | exact mup_s _ _ _ | rw [mup_n _ _ (by omega)])) rfl rfl (by intro r h9; cases h9; rfl) rfl rfl (Nat.le_of_ble_eq_true rfl) rfl ?_
  refine mj_aload_n 0 dX6_init_20 rfl ?_
  refine mj_bipush (v := (42)) dX6_init_21 rfl ?_
  refine mj_newaI dX6_init_23 ac_int (by decide : (42 : Int32).toInt = ((42 : Nat) : Int)) (by omega) (Nat.le_of_ble_eq_true rfl) (Nat.le_of_ble_eq_true rfl) ?_
  refine mj_putG dX6_init_25 ffX6_18 (by repeat (first | assumption | exact mup_s _ _ _ | rw [mup_n _ _ (by omega)])) rfl rfl (by intro r h9; cases h9; rfl) rfl rfl (Nat.le_of_ble_eq_true rfl) rfl ?_
  refine mj_aload_n 0 dX6_init_28 rfl ?_
  refine mj_bipush (v := (42)) dX6_init_29 rfl ?_
  refine mj_newaI dX6_init_31 ac_int (by decide : (42 : Int32).toInt = ((42 : Nat) : Int)) (by omega) (Nat.le_of_ble_eq_true rfl) (Nat.le_of_ble_eq_true rfl) ?_
  refine mj_putG dX6_init_33 ffX6_21 (by repeat (first | assumption | exact mup_s _ _ _ | rw [mup_n _ _ (by omega)])) rfl rfl (by intro r h9; cases h9; rfl) rfl rfl (Nat.le_of_ble_eq_true rfl) rfl ?_
  refine mj_aload_n 0 dX6_init_36 rfl ?_
  refine mj_iconst (v := 0) dX6_init_37 rfl ?_
  refine mj_iconst (v := 0) dX6_init_38 rfl ?_
  refine mj_iconst (v := 0) dX6_init_39 rfl ?_
  refine mj_iconst (v := 0) dX6_init_40 rfl ?_
  refine mj_cV0 [_, _, _, _] (RX6, TX6, 5) dX6_init_41 cwX6_begin lkX6_24 (by repeat (first | assumption | exact mup_s _ _ _ | rw [mup_n _ _ (by omega)])) rfl rfl rfl rfl (cn_X6_begin (R := (0, fun _ => 0, fun _ => 0, fun _ => 0, fun _ => 0)) ⟨(by repeat (first | assumption | exact mup_s _ _ _ | rw [mup_n _ _ (by omega)])), (by repeat (first | assumption | exact mup_s _ _ _ | rw [mup_n _ _ (by omega)])), (by repeat (first | assumption | exact mup_s _ _ _ | rw [mup_n _ _ (by omega)])), (by repeat (first | assumption | exact mup_s _ _ _ | rw [mup_n _ _ (by omega)])), (by repeat (first | assumption | exact mup_s _ _ _ | rw [mup_n _ _ (by omega)])), (by show 0 ≤ 42; omega)⟩) ⟨Nat.le_of_ble_eq_true rfl, Nat.le_of_ble_eq_true rfl, Nat.le_of_ble_eq_true rfl, Nat.le_of_ble_eq_true rfl, Nat.le_of_ble_eq_true rfl⟩ (fun h' e' => ?_)
  obtain ⟨q1, q2⟩ := e'
  exact mj_vret dX6_init_44 rfl (Nat.le_of_ble_eq_true rfl) (Nat.le_of_ble_eq_true rfl) ⟨rfl, rfl, ⟨_, q1, Off.tr (by repeat (first | exact Off.rf | refine Off.m ?_ _ (by omega) (by omega))) q2⟩⟩
