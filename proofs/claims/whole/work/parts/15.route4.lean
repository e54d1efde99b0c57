/-- the stop k, whole -/
def st4 (R : RS) (k : Nat) : Int32 × Int32 × Int32 × Int32 := (rc R k, rx R k, ry R k, rt R k)
def r_mv (R : RS) (j l : Nat) : RS := r_set R l (rc R j) (rx R j) (ry R j) (rt R j)
theorem st4_set (R : RS) (j : Nat) (c x y t : Int32) (k : Nat) : st4 (r_set R j c x y t) k = if k = j then (c, x, y, t) else st4 R k := by
  by_cases e : k = j
  · subst e; simp [st4, r_set, upd, rc, rx, ry, rt]
  · simp [st4, r_set, upd, rc, rx, ry, rt, e]
theorem st4_mv (R : RS) (j l k : Nat) : st4 (r_mv R j l) k = if k = l then st4 R j else st4 R k := by
  unfold r_mv
  rw [st4_set]
  rfl
/-- the same route -/
def Req (R R' : RS) : Prop := rn R' = rn R ∧ ∀ k, k < rn R → st4 R' k = st4 R k
def r_ins (R : RS) (num : Int32) (X : RdS) (i j : Nat) : RS := (rn R + 2,
  (fun k => if k ≤ i then rc R k else if k = i + 1 then num else if k ≤ j + 1 then rc R (k - 1) else if k = j + 2 then 100 + num else rc R (k - 2)),
  (fun k => if k ≤ i then rx R k else if k = i + 1 then qfx X else if k ≤ j + 1 then rx R (k - 1) else if k = j + 2 then qtx X else rx R (k - 2)),
  (fun k => if k ≤ i then ry R k else if k = i + 1 then qfy X else if k ≤ j + 1 then ry R (k - 1) else if k = j + 2 then qty X else ry R (k - 2)),
  (fun k => if k ≤ i then rt R k else if k = i + 1 then qrd X else if k ≤ j + 1 then rt R (k - 1) else if k = j + 2 then qdl X else rt R (k - 2)))
theorem st4_ins (R : RS) (num : Int32) (X : RdS) (i j k : Nat) : st4 (r_ins R num X i j) k = if k ≤ i then st4 R k else if k = i + 1 then (num, qfx X, qfy X, qrd X) else if k ≤ j + 1 then st4 R (k - 1) else if k = j + 2 then (100 + num, qtx X, qty X, qdl X) else st4 R (k - 2) := by
  unfold st4 r_ins rc rx ry rt
  dsimp only
  split
  · rfl
  · split
    · rfl
    · split
      · rfl
      · split <;> rfl
def P1 (R : RS) (m : Nat) (R1 : RS) : Prop := rn R1 = rn R ∧ (∀ k, k ≤ m → st4 R1 k = st4 R k) ∧ ∀ k, m + 3 ≤ k → k < rn R + 2 → st4 R1 k = st4 R (k - 2)
theorem P1.go {R R1 : RS} {m : Nat} (p : P1 R (m + 1) R1) : P1 R m (r_mv R1 (m + 1) (m + 3)) := by
  obtain ⟨p1, p2, p3⟩ := p
  refine ⟨p1, fun k hk => ?_, fun k h1 h2 => ?_⟩
  · rw [st4_mv, if_neg (by omega)]
    exact p2 k (by omega)
  · rw [st4_mv]
    by_cases e : k = m + 3
    · rw [if_pos e, p2 (m + 1) (by omega), show k - 2 = m + 1 by omega]
    · rw [if_neg e]
      exact p3 k (by omega) h2
def P2 (R : RS) (j : Nat) (D : Int32 × Int32 × Int32 × Int32) (m : Nat) (R1 : RS) : Prop := rn R1 = rn R ∧ (∀ k, k ≤ m → st4 R1 k = st4 R k) ∧ (∀ k, m + 2 ≤ k → k ≤ j + 1 → st4 R1 k = st4 R (k - 1)) ∧ st4 R1 (j + 2) = D ∧ ∀ k, j + 3 ≤ k → k < rn R + 2 → st4 R1 k = st4 R (k - 2)
theorem P2.go {R R1 : RS} {j m : Nat} {D : Int32 × Int32 × Int32 × Int32} (p : P2 R j D (m + 1) R1) (hm : m + 1 ≤ j) : P2 R j D m (r_mv R1 (m + 1) (m + 2)) := by
  obtain ⟨p1, p2, p3, p4, p5⟩ := p
  refine ⟨p1, fun k hk => ?_, fun k h1 h2 => ?_, ?_, fun k h1 h2 => ?_⟩
  · rw [st4_mv, if_neg (by omega)]
    exact p2 k (by omega)
  · rw [st4_mv]
    by_cases e : k = m + 2
    · rw [if_pos e, p2 (m + 1) (by omega), show k - 1 = m + 1 by omega]
    · rw [if_neg e]
      exact p3 k (by omega) h2
  · rw [st4_mv, if_neg (by omega)]
    exact p4
  · rw [st4_mv, if_neg (by omega)]
    exact p5 k h1 h2
def r_like (R O : RS) : RS := r_begin R (rx O 0) (ry O 0) (rx O (rn O - 1)) (ry O (rn O - 1))
set_option maxRecDepth 100000 in
set_option maxHeartbeats 4000000 in
theorem cn_X6_beginLike {K : KX} {n : Nat} {h : MH} {a : Nat} {R : RS} (r : Rt h a R) {b : Nat} {O : RS} (o : Rt h b O) (h2 : 1 ≤ rn O) : Con K mX6_beginLike [.ref a, .ref b] 0 0 n h (RetP none n (RtW h a (r_like R O))) := by
  obtain ⟨r0, r1, r2, r3, r4, r5⟩ := r
  obtain ⟨o0, o1, o2, o3, o4, o5⟩ := o
  refine Con.of (by decide +kernel) (Nat.le_of_ble_eq_true rfl) ?_
  refine mj_aload_n 1 dX6_beginLike_0 rfl ?_
  refine mj_getf dX6_beginLike_1 fgX6_32 (by repeat (first | assumption | exact mup_s _ _ _ | rw [mup_n _ _ (by omega)])) rfl ?_
  refine mj_iconst (v := 1) dX6_beginLike_4 rfl ?_
  refine mj_isub dX6_beginLike_5 ?_
  refine mj_eq (show nI (rn O) - 1 = nI (rn O - 1) from pk_sub (by omega)) ?_
  refine mj_istore_n (ls' := [(2, _), (0, _), (1, _)]) dX6_beginLike_6 (Nat.le_of_ble_eq_true rfl) rfl ?_
  refine mj_aload_n 1 dX6_beginLike_7 rfl ?_
  refine mj_aload_n 2 dX6_beginLike_8 rfl ?_
  refine mj_getf dX6_beginLike_9 fgX6_15 (by repeat (first | assumption | exact mup_s _ _ _ | rw [mup_n _ _ (by omega)])) rfl ?_
  refine mj_iconst (v := 0) dX6_beginLike_12 rfl ?_
  refine mj_iald (by repeat (first | assumption | exact mup_s _ _ _ | rw [mup_n _ _ (by omega)])) (show (0 : Int32).toInt = ((0 : Nat) : Int) from rfl) (by first | assumption | decide | omega) dX6_beginLike_13 ?_
  refine mj_aload_n 2 dX6_beginLike_14 rfl ?_
  refine mj_getf dX6_beginLike_15 fgX6_18 (by repeat (first | assumption | exact mup_s _ _ _ | rw [mup_n _ _ (by omega)])) rfl ?_
  refine mj_iconst (v := 0) dX6_beginLike_18 rfl ?_
  refine mj_iald (by repeat (first | assumption | exact mup_s _ _ _ | rw [mup_n _ _ (by omega)])) (show (0 : Int32).toInt = ((0 : Nat) : Int) from rfl) (by first | assumption | decide | omega) dX6_beginLike_19 ?_
  refine mj_aload_n 2 dX6_beginLike_20 rfl ?_
  refine mj_getf dX6_beginLike_21 fgX6_15 (by repeat (first | assumption | exact mup_s _ _ _ | rw [mup_n _ _ (by omega)])) rfl ?_
  refine mj_iload_n 0 dX6_beginLike_24 rfl ?_
  refine mj_iald (by repeat (first | assumption | exact mup_s _ _ _ | rw [mup_n _ _ (by omega)])) (by first | assumption | rfl | exact ixn (by omega)) (by first | assumption | decide | omega) dX6_beginLike_25 ?_
  refine mj_aload_n 2 dX6_beginLike_26 rfl ?_
  refine mj_getf dX6_beginLike_27 fgX6_18 (by repeat (first | assumption | exact mup_s _ _ _ | rw [mup_n _ _ (by omega)])) rfl ?_
  refine mj_iload_n 0 dX6_beginLike_30 rfl ?_
  refine mj_iald (by repeat (first | assumption | exact mup_s _ _ _ | rw [mup_n _ _ (by omega)])) (by first | assumption | rfl | exact ixn (by omega)) (by first | assumption | decide | omega) dX6_beginLike_31 ?_
  refine mj_cV0 [_, _, _, _] (RX6, TX6, 5) dX6_beginLike_32 cwX6_begin lkX6_24 (by repeat (first | assumption | exact mup_s _ _ _ | rw [mup_n _ _ (by omega)])) rfl rfl rfl rfl (cn_X6_begin ⟨r0, r1, r2, r3, r4, r5⟩) ⟨Nat.le_of_ble_eq_true rfl, Nat.le_of_ble_eq_true rfl, Nat.le_of_ble_eq_true rfl, Nat.le_of_ble_eq_true rfl, Nat.le_of_ble_eq_true rfl⟩ (fun h' e' => ?_)
  exact mj_vret dX6_beginLike_35 rfl (Nat.le_of_ble_eq_true rfl) (Nat.le_of_ble_eq_true rfl) ⟨rfl, rfl, e'⟩
theorem va_cpy0 (f g : Nat → Int32) {z k : Nat} (h : k < z) : va_cpy f g 0 0 z k = f k := by
  unfold va_cpy
  rw [if_pos (by omega)]
  rw [show 0 + (k - 0) = k by omega]
set_option maxRecDepth 100000 in
set_option maxHeartbeats 4000000 in
theorem cn_X6_copyFrom {K : KX} {n : Nat} {h : MH} {a : Nat} {R : RS} (r : Rt h a R) {b : Nat} {O : RS} (o : Rt h b O) (hd : a + 5 ≤ b ∨ b + 5 ≤ a) : Con K mX6_copyFrom [.ref a, .ref b] 0 0 n h (RetP none n (fun h' => ∃ R', Rt h' a R' ∧ Req O R' ∧ Off a (a + 5) h h')) := by
  obtain ⟨r0, r1, r2, r3, r4, r5⟩ := r
  obtain ⟨o0, o1, o2, o3, o4, o5⟩ := o
  refine Con.of (by decide +kernel) (Nat.le_of_ble_eq_true rfl) ?_
  refine mj_aload_n 0 dX6_copyFrom_0 rfl ?_
  refine mj_aload_n 1 dX6_copyFrom_1 rfl ?_
  refine mj_getf dX6_copyFrom_2 fgX6_32 (by repeat (first | assumption | exact mup_s _ _ _ | rw [mup_n _ _ (by omega)])) rfl ?_
  refine mj_putf dX6_copyFrom_5 fgX6_32 (by repeat (first | assumption | exact mup_s _ _ _ | rw [mup_n _ _ (by omega)])) rfl rfl rfl (Nat.le_of_ble_eq_true rfl) rfl ?_
  refine mj_aload_n 1 dX6_copyFrom_8 rfl ?_
  refine mj_getf dX6_copyFrom_9 fgX6_9 (by repeat (first | assumption | exact mup_s _ _ _ | rw [mup_n _ _ (by omega)])) rfl ?_
  refine mj_iconst (v := 0) dX6_copyFrom_12 rfl ?_
  refine mj_aload_n 0 dX6_copyFrom_13 rfl ?_
  refine mj_getf dX6_copyFrom_14 fgX6_9 (by repeat (first | assumption | exact mup_s _ _ _ | rw [mup_n _ _ (by omega)])) rfl ?_
  refine mj_iconst (v := 0) dX6_copyFrom_17 rfl ?_
  refine mj_aload_n 0 dX6_copyFrom_18 rfl ?_
  refine mj_getf dX6_copyFrom_19 fgX6_32 (by repeat (first | assumption | exact mup_s _ _ _ | rw [mup_n _ _ (by omega)])) rfl ?_
  refine mj_copyi (j0 := 0) (j1 := 0) dX6_copyFrom_22 mlX6_36 nt_copy st_copy in_System (by repeat (first | assumption | exact mup_s _ _ _ | rw [mup_n _ _ (by omega)])) (by repeat (first | assumption | exact mup_s _ _ _ | rw [mup_n _ _ (by omega)])) rfl rfl (ixn (by omega)) (by omega) (by omega) (Nat.le_of_ble_eq_true rfl) (Nat.le_of_ble_eq_true rfl) ?_
  refine mj_aload_n 1 dX6_copyFrom_25 rfl ?_
  refine mj_getf dX6_copyFrom_26 fgX6_15 (by repeat (first | assumption | exact mup_s _ _ _ | rw [mup_n _ _ (by omega)])) rfl ?_
  refine mj_iconst (v := 0) dX6_copyFrom_29 rfl ?_
  refine mj_aload_n 0 dX6_copyFrom_30 rfl ?_
  refine mj_getf dX6_copyFrom_31 fgX6_15 (by repeat (first | assumption | exact mup_s _ _ _ | rw [mup_n _ _ (by omega)])) rfl ?_
  refine mj_iconst (v := 0) dX6_copyFrom_34 rfl ?_
  refine mj_aload_n 0 dX6_copyFrom_35 rfl ?_
  refine mj_getf dX6_copyFrom_36 fgX6_32 (by repeat (first | assumption | exact mup_s _ _ _ | rw [mup_n _ _ (by omega)])) rfl ?_
  refine mj_copyi (j0 := 0) (j1 := 0) dX6_copyFrom_39 mlX6_36 nt_copy st_copy in_System (by repeat (first | assumption | exact mup_s _ _ _ | rw [mup_n _ _ (by omega)])) (by repeat (first | assumption | exact mup_s _ _ _ | rw [mup_n _ _ (by omega)])) rfl rfl (ixn (by omega)) (by omega) (by omega) (Nat.le_of_ble_eq_true rfl) (Nat.le_of_ble_eq_true rfl) ?_
  refine mj_aload_n 1 dX6_copyFrom_42 rfl ?_
  refine mj_getf dX6_copyFrom_43 fgX6_18 (by repeat (first | assumption | exact mup_s _ _ _ | rw [mup_n _ _ (by omega)])) rfl ?_
  refine mj_iconst (v := 0) dX6_copyFrom_46 rfl ?_
  refine mj_aload_n 0 dX6_copyFrom_47 rfl ?_
  refine mj_getf dX6_copyFrom_48 fgX6_18 (by repeat (first | assumption | exact mup_s _ _ _ | rw [mup_n _ _ (by omega)])) rfl ?_
  refine mj_iconst (v := 0) dX6_copyFrom_51 rfl ?_
  refine mj_aload_n 0 dX6_copyFrom_52 rfl ?_
  refine mj_getf dX6_copyFrom_53 fgX6_32 (by repeat (first | assumption | exact mup_s _ _ _ | rw [mup_n _ _ (by omega)])) rfl ?_
  refine mj_copyi (j0 := 0) (j1 := 0) dX6_copyFrom_56 mlX6_36 nt_copy st_copy in_System (by repeat (first | assumption | exact mup_s _ _ _ | rw [mup_n _ _ (by omega)])) (by repeat (first | assumption | exact mup_s _ _ _ | rw [mup_n _ _ (by omega)])) rfl rfl (ixn (by omega)) (by omega) (by omega) (Nat.le_of_ble_eq_true rfl) (Nat.le_of_ble_eq_true rfl) ?_
  refine mj_aload_n 1 dX6_copyFrom_59 rfl ?_
  refine mj_getf dX6_copyFrom_60 fgX6_21 (by repeat (first | assumption | exact mup_s _ _ _ | rw [mup_n _ _ (by omega)])) rfl ?_
  refine mj_iconst (v := 0) dX6_copyFrom_63 rfl ?_
  refine mj_aload_n 0 dX6_copyFrom_64 rfl ?_
  refine mj_getf dX6_copyFrom_65 fgX6_21 (by repeat (first | assumption | exact mup_s _ _ _ | rw [mup_n _ _ (by omega)])) rfl ?_
  refine mj_iconst (v := 0) dX6_copyFrom_68 rfl ?_
  refine mj_aload_n 0 dX6_copyFrom_69 rfl ?_
  refine mj_getf dX6_copyFrom_70 fgX6_32 (by repeat (first | assumption | exact mup_s _ _ _ | rw [mup_n _ _ (by omega)])) rfl ?_
  refine mj_copyi (j0 := 0) (j1 := 0) dX6_copyFrom_73 mlX6_36 nt_copy st_copy in_System (by repeat (first | assumption | exact mup_s _ _ _ | rw [mup_n _ _ (by omega)])) (by repeat (first | assumption | exact mup_s _ _ _ | rw [mup_n _ _ (by omega)])) rfl rfl (ixn (by omega)) (by omega) (by omega) (Nat.le_of_ble_eq_true rfl) (Nat.le_of_ble_eq_true rfl) ?_
  exact mj_vret dX6_copyFrom_76 rfl (Nat.le_of_ble_eq_true rfl) (Nat.le_of_ble_eq_true rfl) ⟨rfl, rfl, ⟨(rn O, va_cpy (rc O) (rc R) 0 0 (rn O), va_cpy (rx O) (rx R) 0 0 (rn O), va_cpy (ry O) (ry R) 0 0 (rn O), va_cpy (rt O) (rt R) 0 0 (rn O)), ⟨(by repeat (first | assumption | exact mup_s _ _ _ | rw [mup_n _ _ (by omega)])), (by repeat (first | assumption | exact mup_s _ _ _ | rw [mup_n _ _ (by omega)])), (by repeat (first | assumption | exact mup_s _ _ _ | rw [mup_n _ _ (by omega)])), (by repeat (first | assumption | exact mup_s _ _ _ | rw [mup_n _ _ (by omega)])), (by repeat (first | assumption | exact mup_s _ _ _ | rw [mup_n _ _ (by omega)])), o5⟩, ⟨rfl, fun k hk => by unfold st4; dsimp only [rc, rx, ry, rt]; rw [va_cpy0 _ _ hk, va_cpy0 _ _ hk, va_cpy0 _ _ hk, va_cpy0 _ _ hk]⟩, (by repeat (first | exact Off.rf | refine Off.m ?_ _ (by omega) (by omega)))⟩⟩
theorem nI_nle2 {a b : Nat} (h : a < b) (hb : b < 2147483648) : ¬ nI b ≤ nI a := nI_ge h hb
theorem insMid {R R1 : RS} {j : Nat} {c x y t : Int32} (p : P1 R j R1) (hj : j + 1 ≤ rn R) : P2 R j (c, x, y, t) j (r_set (rn R, R1.2) (j + 2) c x y t) := by
  obtain ⟨p1, p2, p3⟩ := p
  have e : ∀ k, st4 (rn R, R1.2) k = st4 R1 k := fun k => rfl
  refine ⟨rfl, fun k hk => ?_, fun k h1 h2 => absurd h1 (by omega), ?_, fun k h1 h2 => ?_⟩
  · rw [st4_set, if_neg (by omega), e]
    exact p2 k hk
  · rw [st4_set, if_pos rfl]
  · rw [st4_set, if_neg (by omega), e]
    exact p3 k h1 h2
theorem insEnd {R R1 : RS} {num : Int32} {X : RdS} {i j : Nat} (hij : i ≤ j) (p : P2 R j (100 + num, qtx X, qty X, qdl X) i R1) : Req (r_ins R num X i j) (rn R + 2, (r_set (rn R, R1.2) (i + 1) num (qfx X) (qfy X) (qrd X)).2) := by
  obtain ⟨p1, p2, p3, p4, p5⟩ := p
  refine ⟨rfl, fun k hk => ?_⟩
  have e : st4 (rn R + 2, (r_set (rn R, R1.2) (i + 1) num (qfx X) (qfy X) (qrd X)).2) k = if k = i + 1 then (num, qfx X, qfy X, qrd X) else st4 R1 k := st4_set (rn R, R1.2) (i + 1) num (qfx X) (qfy X) (qrd X) k
  have hk' : k < rn R + 2 := hk
  rw [e, st4_ins]
  by_cases q1 : k ≤ i
  · rw [if_pos q1, if_neg (by omega)]
    exact p2 k q1
  · rw [if_neg q1]
    by_cases q2 : k = i + 1
    · rw [if_pos q2, if_pos q2]
    · rw [if_neg q2, if_neg q2]
      by_cases q3 : k ≤ j + 1
      · rw [if_pos q3]
        exact p3 k (by omega) q3
      · rw [if_neg q3]
        by_cases q4 : k = j + 2
        · rw [if_pos q4, q4]
          exact p4
        · rw [if_neg q4]
          exact p5 k (by omega) hk'
theorem insDone {R R1 : RS} {num : Int32} {X : RdS} {i j a : Nat} {h h1 h2 : MH} {v : MC} (hi : i + 1 < rn R) (hij : i ≤ j) (hj : j + 1 < rn R) (p : P2 R j (100 + num, qtx X, qty X, qdl X) i R1) (e1 : rn R1 = rn R) (o : Off a (a + 5) h h1) (o' : Off a (a + 5) h1 h2)
    (r : Rt (mup h2 a v) a (rn R + 2, (r_set (rn R, R1.2) (i + 1) num (qfx X) (qfy X) (qrd X)).2)) : ∃ R', Rt (mup h2 a v) a R' ∧ Req (r_ins R num X i j) R' ∧ Off a (a + 5) h (mup h2 a v) :=
  ⟨_, r, insEnd hij p, (o.tr o').m _ (by omega) (by omega)⟩
set_option maxRecDepth 100000 in
set_option maxHeartbeats 4000000 in
theorem cn_X6_insert {K : KX} {n : Nat} {h : MH} {a : Nat} {R : RS} (r : Rt h a R) {q i j : Nat} {num : Int32} {X : RdS} (hX : h q = some (rdC num X)) (hq : q < a ∨ a + 5 ≤ q) (hij : i ≤ j) (hj : j + 1 < rn R) (hm : rn R + 2 ≤ 42) : Con K mX6_insert [.ref a, .ref q, .int (nI i), .int (nI j)] 0 0 n h (RetP none n (fun h' => ∃ R', Rt h' a R' ∧ Req (r_ins R num X i j) R' ∧ Off a (a + 5) h h')) := by
  refine Con.of (by decide +kernel) (Nat.le_of_ble_eq_true rfl) ?_
  have hi : i + 1 < rn R := by omega
  have loop2 : ∀ (f : Nat) (m : Nat) (R1 : RS) (h1 : MH), m = i + f → m ≤ j → Rt h1 a R1 → Off a (a + 5) h h1 → P2 R j (100 + num, qtx X, qty X, qdl X) m R1 → GG (K, mX6_insert, 0, 0, RetP none n (fun h' => ∃ R', Rt h' a R' ∧ Req (r_ins R num X i j) R' ∧ Off a (a + 5) h h')) 0 0 59 [(4, .int (nI m)), (0, .ref a), (1, .ref q), (2, .int (nI i)), (3, .int (nI j))] [] n h1 := by
    intro f
    induction f with
    | zero =>
      intro m R1 h1 hm hmj r o p
      have hX1 := o.at hX hq
      have e1 := p.1
      obtain ⟨r0, r1, r2, r3, r4, r5⟩ := r
      rw [p.1] at r0 r5
      obtain rfl : i = m := by omega
      refine mj_iload 0 dX6_insert_59 rfl ?_
      refine mj_iload_n 3 dX6_insert_61 rfl ?_
      refine mj_icmp_le 81 dX6_insert_62 (by decide) (fun c_62 => ?_) (fun c_62 => ?_)
      · refine mj_aload_n 1 dX6_insert_81 rfl ?_
        refine mj_iload_n 3 dX6_insert_82 rfl ?_
        refine mj_iconst (v := 1) dX6_insert_83 rfl ?_
        refine mj_iadd dX6_insert_84 ?_
        refine mj_eq (nI_1 _) ?_
        refine mj_aload_n 2 dX6_insert_85 rfl ?_
        refine mj_getf dX6_insert_86 fgX6_102 (by repeat (first | assumption | exact mup_s _ _ _ | rw [mup_n _ _ (by omega)])) rfl ?_
        refine mj_aload_n 2 dX6_insert_89 rfl ?_
        refine mj_getf dX6_insert_90 fgX6_80 (by repeat (first | assumption | exact mup_s _ _ _ | rw [mup_n _ _ (by omega)])) rfl ?_
        refine mj_aload_n 2 dX6_insert_93 rfl ?_
        refine mj_getf dX6_insert_94 fgX6_85 (by repeat (first | assumption | exact mup_s _ _ _ | rw [mup_n _ _ (by omega)])) rfl ?_
        refine mj_aload_n 2 dX6_insert_97 rfl ?_
        refine mj_getf dX6_insert_98 fgX6_108 (by repeat (first | assumption | exact mup_s _ _ _ | rw [mup_n _ _ (by omega)])) rfl ?_
        refine mj_cV0 [_, _, _, _, _] (RX6, TX6, 5) dX6_insert_101 cwX6_setStop lkX6_28 (by repeat (first | assumption | exact mup_s _ _ _ | rw [mup_n _ _ (by omega)])) rfl rfl rfl rfl (cn_X6_setStop (R := (rn R, R1.2)) ⟨r0, r1, r2, r3, r4, r5⟩ (j := i + 1) (ixn (by omega)) (by omega)) ⟨Nat.le_of_ble_eq_true rfl, Nat.le_of_ble_eq_true rfl, Nat.le_of_ble_eq_true rfl, Nat.le_of_ble_eq_true rfl, Nat.le_of_ble_eq_true rfl⟩ (fun h' e' => ?_)
        obtain ⟨⟨r0', r1', r2', r3', r4', r5'⟩, o'⟩ := e'
        refine mj_aload_n 1 dX6_insert_104 rfl ?_
        refine mj_dup dX6_insert_105 rfl ?_
        refine mj_getf dX6_insert_106 fgX6_32 (by repeat (first | assumption | exact mup_s _ _ _ | rw [mup_n _ _ (by omega)])) rfl ?_
        refine mj_iconst (v := 2) dX6_insert_109 rfl ?_
        refine mj_iadd dX6_insert_110 ?_
        refine mj_eq (show nI (rn R) + 2 = nI (rn R + 2) from nI_add _ 2) ?_
        refine mj_putf dX6_insert_111 fgX6_32 (by repeat (first | assumption | exact mup_s _ _ _ | rw [mup_n _ _ (by omega)])) rfl rfl rfl (Nat.le_of_ble_eq_true rfl) rfl ?_
        exact mj_vret dX6_insert_114 rfl (Nat.le_of_ble_eq_true rfl) (Nat.le_of_ble_eq_true rfl) ⟨rfl, rfl, insDone hi hij hj p e1 o o' ⟨(by repeat (first | assumption | exact mup_s _ _ _ | rw [mup_n _ _ (by omega)])), (by repeat (first | assumption | exact mup_s _ _ _ | rw [mup_n _ _ (by omega)])), (by repeat (first | assumption | exact mup_s _ _ _ | rw [mup_n _ _ (by omega)])), (by repeat (first | assumption | exact mup_s _ _ _ | rw [mup_n _ _ (by omega)])), (by repeat (first | assumption | exact mup_s _ _ _ | rw [mup_n _ _ (by omega)])), (by show rn R + 2 ≤ 42; omega)⟩⟩
      · exact absurd (nI_le (by omega) (by omega)) c_62
    | succ f ih =>
      intro m R1 h1 hm hmj r o p
      have hX1 := o.at hX hq
      have e1 := p.1
      obtain ⟨r0, r1, r2, r3, r4, r5⟩ := r
      have r0' := r0; have r5' := r5; rw [p.1] at r0' r5'
      refine mj_iload 0 dX6_insert_59 rfl ?_
      refine mj_iload_n 3 dX6_insert_61 rfl ?_
      refine mj_icmp_le 81 dX6_insert_62 (by decide) (fun c_62 => ?_) (fun c_62 => ?_)
      · exact absurd c_62 (nI_nle2 (by omega) (by omega))
      · refine mj_aload_n 1 dX6_insert_65 rfl ?_
        refine mj_iload 0 dX6_insert_66 rfl ?_
        refine mj_iload 0 dX6_insert_68 rfl ?_
        refine mj_iconst (v := 1) dX6_insert_70 rfl ?_
        refine mj_iadd dX6_insert_71 ?_
        refine mj_eq (nI_1 _) ?_
        refine mj_cV0 [_, _] (RX6, TX6, 5) dX6_insert_72 cwX6_moveStop lkX6_98 (by repeat (first | assumption | exact mup_s _ _ _ | rw [mup_n _ _ (by omega)])) rfl rfl rfl rfl (cn_X6_moveStop ⟨r0, r1, r2, r3, r4, r5⟩ (j := m) (ixn (by omega)) (by omega) (l := m + 1) (ixn (by omega)) (by omega)) ⟨Nat.le_of_ble_eq_true rfl, Nat.le_of_ble_eq_true rfl, Nat.le_of_ble_eq_true rfl, Nat.le_of_ble_eq_true rfl, Nat.le_of_ble_eq_true rfl⟩ (fun h' e' => ?_)
        obtain ⟨hr', ho'⟩ := e'
        refine mj_iinc (ls' := [(4, _), (0, _), (1, _), (2, _), (3, _)]) 0 dX6_insert_75 rfl (show nI m + Int32.ofInt (-1) = nI (m - 1) from by rw [show m = (m - 1) + 1 by omega]; exact pk_m1 _) (Nat.le_of_ble_eq_true rfl) rfl ?_
        refine mj_goto 59 dX6_insert_78 (by decide) ?_
        exact mj_ls [0, 1, 2, 3, 4] rfl (ih (m - 1) _ h' (by omega) (by omega) hr' (o.tr ho') (by have hp := P2.go (m := m - 1) (by rw [show m - 1 + 1 = m by omega]; exact p) (by omega); rw [show m - 1 + 1 = m by omega, show m - 1 + 2 = m + 1 by omega] at hp; exact hp))
  have loop1 : ∀ (f : Nat) (m : Nat) (R1 : RS) (h1 : MH), m = j + f → m + 1 ≤ rn R → Rt h1 a R1 → Off a (a + 5) h h1 → P1 R m R1 → GG (K, mX6_insert, 0, 0, RetP none n (fun h' => ∃ R', Rt h' a R' ∧ Req (r_ins R num X i j) R' ∧ Off a (a + 5) h h')) 0 0 8 [(4, .int (nI m)), (0, .ref a), (1, .ref q), (2, .int (nI i)), (3, .int (nI j))] [] n h1 := by
    intro f
    induction f with
    | zero =>
      intro m R1 h1 hm hmn r o p
      have hX1 := o.at hX hq
      have e1 := p.1
      obtain ⟨r0, r1, r2, r3, r4, r5⟩ := r
      rw [p.1] at r0 r5
      obtain rfl : j = m := by omega
      refine mj_iload 0 dX6_insert_8 rfl ?_
      refine mj_iload_n 4 dX6_insert_10 rfl ?_
      refine mj_icmp_le 30 dX6_insert_11 (by decide) (fun c_11 => ?_) (fun c_11 => ?_)
      · refine mj_aload_n 1 dX6_insert_30 rfl ?_
        refine mj_iload_n 4 dX6_insert_31 rfl ?_
        refine mj_iconst (v := 2) dX6_insert_32 rfl ?_
        refine mj_iadd dX6_insert_33 ?_
        refine mj_eq (show nI j + 2 = nI (j + 2) from nI_add _ 2) ?_
        refine mj_bipush (v := (100)) dX6_insert_34 rfl ?_
        refine mj_aload_n 2 dX6_insert_36 rfl ?_
        refine mj_getf dX6_insert_37 fgX6_102 (by repeat (first | assumption | exact mup_s _ _ _ | rw [mup_n _ _ (by omega)])) rfl ?_
        refine mj_iadd dX6_insert_40 ?_
        refine mj_aload_n 2 dX6_insert_41 rfl ?_
        refine mj_getf dX6_insert_42 fgX6_92 (by repeat (first | assumption | exact mup_s _ _ _ | rw [mup_n _ _ (by omega)])) rfl ?_
        refine mj_aload_n 2 dX6_insert_45 rfl ?_
        refine mj_getf dX6_insert_46 fgX6_95 (by repeat (first | assumption | exact mup_s _ _ _ | rw [mup_n _ _ (by omega)])) rfl ?_
        refine mj_aload_n 2 dX6_insert_49 rfl ?_
        refine mj_getf dX6_insert_50 fgX6_105 (by repeat (first | assumption | exact mup_s _ _ _ | rw [mup_n _ _ (by omega)])) rfl ?_
        refine mj_cV0 [_, _, _, _, _] (RX6, TX6, 5) dX6_insert_53 cwX6_setStop lkX6_28 (by repeat (first | assumption | exact mup_s _ _ _ | rw [mup_n _ _ (by omega)])) rfl rfl rfl rfl (cn_X6_setStop (R := (rn R, R1.2)) ⟨r0, r1, r2, r3, r4, r5⟩ (j := j + 2) (ixn (by omega)) (by omega)) ⟨Nat.le_of_ble_eq_true rfl, Nat.le_of_ble_eq_true rfl, Nat.le_of_ble_eq_true rfl, Nat.le_of_ble_eq_true rfl, Nat.le_of_ble_eq_true rfl⟩ (fun h' e' => ?_)
        obtain ⟨hr', ho'⟩ := e'
        refine mj_iload_n 4 dX6_insert_56 rfl ?_
        refine mj_istore (ls' := [(4, _), (0, _), (1, _), (2, _), (3, _)]) dX6_insert_57 (Nat.le_of_ble_eq_true rfl) rfl ?_
        exact mj_ls [0, 1, 2, 3, 4] rfl (loop2 (j - i) j _ h' (by omega) (by omega) hr' (o.tr ho') (insMid p (by omega)))
      · exact absurd (nI_le (by omega) (by omega)) c_11
    | succ f ih =>
      intro m R1 h1 hm hmn r o p
      have hX1 := o.at hX hq
      have e1 := p.1
      obtain ⟨r0, r1, r2, r3, r4, r5⟩ := r
      have r0' := r0; have r5' := r5; rw [p.1] at r0' r5'
      refine mj_iload 0 dX6_insert_8 rfl ?_
      refine mj_iload_n 4 dX6_insert_10 rfl ?_
      refine mj_icmp_le 30 dX6_insert_11 (by decide) (fun c_11 => ?_) (fun c_11 => ?_)
      · exact absurd c_11 (nI_nle2 (by omega) (by omega))
      · refine mj_aload_n 1 dX6_insert_14 rfl ?_
        refine mj_iload 0 dX6_insert_15 rfl ?_
        refine mj_iload 0 dX6_insert_17 rfl ?_
        refine mj_iconst (v := 2) dX6_insert_19 rfl ?_
        refine mj_iadd dX6_insert_20 ?_
        refine mj_eq (show nI m + 2 = nI (m + 2) from nI_add _ 2) ?_
        refine mj_cV0 [_, _] (RX6, TX6, 5) dX6_insert_21 cwX6_moveStop lkX6_98 (by repeat (first | assumption | exact mup_s _ _ _ | rw [mup_n _ _ (by omega)])) rfl rfl rfl rfl (cn_X6_moveStop ⟨r0, r1, r2, r3, r4, r5⟩ (j := m) (ixn (by omega)) (by omega) (l := m + 2) (ixn (by omega)) (by omega)) ⟨Nat.le_of_ble_eq_true rfl, Nat.le_of_ble_eq_true rfl, Nat.le_of_ble_eq_true rfl, Nat.le_of_ble_eq_true rfl, Nat.le_of_ble_eq_true rfl⟩ (fun h' e' => ?_)
        obtain ⟨hr', ho'⟩ := e'
        refine mj_iinc (ls' := [(4, _), (0, _), (1, _), (2, _), (3, _)]) 0 dX6_insert_24 rfl (show nI m + Int32.ofInt (-1) = nI (m - 1) from by rw [show m = (m - 1) + 1 by omega]; exact pk_m1 _) (Nat.le_of_ble_eq_true rfl) rfl ?_
        refine mj_goto 8 dX6_insert_27 (by decide) ?_
        exact mj_ls [0, 1, 2, 3, 4] rfl (ih (m - 1) _ h' (by omega) (by omega) hr' (o.tr ho') (by have hp := P1.go (m := m - 1) (by rw [show m - 1 + 1 = m by omega]; exact p); rw [show m - 1 + 1 = m by omega, show m - 1 + 3 = m + 2 by omega] at hp; exact hp))
  have r9 := r
  obtain ⟨r0, r1, r2, r3, r4, r5⟩ := r
  refine mj_aload_n 0 dX6_insert_0 rfl ?_
  refine mj_getf dX6_insert_1 fgX6_32 (by repeat (first | assumption | exact mup_s _ _ _ | rw [mup_n _ _ (by omega)])) rfl ?_
  refine mj_iconst (v := 1) dX6_insert_4 rfl ?_
  refine mj_isub dX6_insert_5 ?_
  refine mj_eq (show nI (rn R) - 1 = nI (rn R - 1) from pk_sub (a := rn R) (b := 1) (by omega)) ?_
  refine mj_istore (ls' := [(4, _), (0, _), (1, _), (2, _), (3, _)]) dX6_insert_6 (Nat.le_of_ble_eq_true rfl) rfl ?_
  exact mj_ls [0, 1, 2, 3, 4] rfl (loop1 (rn R - 1 - j) (rn R - 1) R h (by omega) (by omega) r9 Off.rf ⟨rfl, fun _ _ => rfl, fun k h1 h2 => absurd h1 (by omega)⟩)
def r_cnt (R : RS) (q : Int32) : Nat → Nat
  | 0 => 0
  | k + 1 => if r_of R k q then r_cnt R q k else r_cnt R q k + 1
theorem r_cnt_le (R : RS) (q : Int32) : ∀ k, r_cnt R q k ≤ k
  | 0 => Nat.le_refl 0
  | k + 1 => by
    have := r_cnt_le R q k
    simp only [r_cnt]
    split <;> omega
theorem r_cnt_mono (R : RS) (q : Int32) {j k : Nat} (h : j ≤ k) : r_cnt R q j ≤ r_cnt R q k := by
  induction h with
  | refl => exact Nat.le_refl _
  | step h ih =>
    refine Nat.le_trans ih ?_
    simp only [r_cnt]
    split <;> omega
def P3 (R : RS) (q : Int32) (k : Nat) (R1 : RS) : Prop := rn R1 = rn R ∧ (∀ s, s < k → r_of R s q = false → st4 R1 (r_cnt R q s) = st4 R s) ∧ ∀ s, k ≤ s → st4 R1 s = st4 R s
theorem P3.of {R R1 : RS} {q : Int32} {k : Nat} (p : P3 R q k R1) : r_of R1 k q = r_of R k q := by
  have e : rc R1 k = rc R k := congrArg (fun z => z.1) (p.2.2 k (Nat.le_refl k))
  unfold r_of
  rw [e]
theorem P3.skip {R R1 : RS} {q : Int32} {k : Nat} (p : P3 R q k R1) (e : r_of R k q = true) : P3 R q (k + 1) R1 := by
  refine ⟨p.1, fun s hs h9 => ?_, fun s hs => p.2.2 s (by omega)⟩
  by_cases z : s = k
  · rw [z, e] at h9; cases h9
  · exact p.2.1 s (by omega) h9
theorem P3.keep {R R1 : RS} {q : Int32} {k : Nat} (p : P3 R q k R1) (e : r_of R k q = false) : P3 R q (k + 1) (r_mv R1 k (r_cnt R q k)) := by
  refine ⟨p.1, fun s hs h9 => ?_, fun s hs => ?_⟩
  · rw [st4_mv]
    by_cases z : s = k
    · subst z
      rw [if_pos rfl]
      exact p.2.2 s (Nat.le_refl s)
    · have h1 : r_cnt R q (s + 1) ≤ r_cnt R q k := r_cnt_mono R q (by omega)
      simp only [r_cnt, h9] at h1
      rw [if_neg (by intro z2; simp at h1; omega)]
      exact p.2.1 s (by omega) h9
  · have := r_cnt_le R q k
    rw [st4_mv, if_neg (by omega)]
    exact p.2.2 s (by omega)
/-- the route without a rider -/
def Rrem (R : RS) (q : Int32) (R' : RS) : Prop := rn R' = r_cnt R q (rn R) ∧ ∀ s, s < rn R → r_of R s q = false → st4 R' (r_cnt R q s) = st4 R s
set_option maxRecDepth 100000 in
set_option maxHeartbeats 4000000 in
theorem cn_X6_remove {K : KX} {n : Nat} {h : MH} {a : Nat} {R : RS} (r : Rt h a R) {q : Int32} : Con K mX6_remove [.ref a, .int q] 0 0 n h (RetP none n (fun h' => ∃ R', Rt h' a R' ∧ Rrem R q R' ∧ Off a (a + 5) h h')) := by
  refine Con.of (by decide +kernel) (Nat.le_of_ble_eq_true rfl) ?_
  have loop : ∀ (f : Nat) (k c : Nat) (R1 : RS) (h1 : MH), k + f = rn R → c = r_cnt R q k → Rt h1 a R1 → Off a (a + 5) h h1 → P3 R q k R1 → GG (K, mX6_remove, 0, 0, RetP none n (fun h' => ∃ R', Rt h' a R' ∧ Rrem R q R' ∧ Off a (a + 5) h h')) 0 0 4 [(3, .int (nI k)), (2, .int (nI c)), (0, .ref a), (1, .int q)] [] n h1 := by
    intro f
    induction f with
    | zero =>
      intro k c R1 h1 hk hc r o p
      have hcl := r_cnt_le R q k
      obtain ⟨r0, r1, r2, r3, r4, r5⟩ := r
      have r0' := r0; have r5' := r5; rw [p.1] at r0' r5'
      refine mj_iload_n 0 dX6_remove_4 rfl ?_
      refine mj_aload_n 2 dX6_remove_5 rfl ?_
      refine mj_getf dX6_remove_6 fgX6_32 (by repeat (first | assumption | exact mup_s _ _ _ | rw [mup_n _ _ (by omega)])) rfl ?_
      refine mj_icmp_ge 36 dX6_remove_9 (by decide) (fun c_9 => ?_) (fun c_9 => ?_)
      · refine mj_aload_n 2 dX6_remove_36 rfl ?_
        refine mj_iload_n 1 dX6_remove_37 rfl ?_
        refine mj_putf dX6_remove_38 fgX6_32 (by repeat (first | assumption | exact mup_s _ _ _ | rw [mup_n _ _ (by omega)])) rfl rfl rfl (Nat.le_of_ble_eq_true rfl) rfl ?_
        exact mj_vret dX6_remove_41 rfl (Nat.le_of_ble_eq_true rfl) (Nat.le_of_ble_eq_true rfl) ⟨rfl, rfl, ⟨(c, R1.2), ⟨(by repeat (first | assumption | exact mup_s _ _ _ | rw [mup_n _ _ (by omega)])), (by repeat (first | assumption | exact mup_s _ _ _ | rw [mup_n _ _ (by omega)])), (by repeat (first | assumption | exact mup_s _ _ _ | rw [mup_n _ _ (by omega)])), (by repeat (first | assumption | exact mup_s _ _ _ | rw [mup_n _ _ (by omega)])), (by repeat (first | assumption | exact mup_s _ _ _ | rw [mup_n _ _ (by omega)])), (by show c ≤ 42; omega)⟩, ⟨by rw [show rn R = k by omega]; exact hc, fun s h8 h9 => p.2.1 s (by omega) h9⟩, o.m _ (by omega) (by omega)⟩⟩
      · exact absurd (nI_le (by omega) (by omega)) c_9
    | succ f ih =>
      intro k c R1 h1 hk hc r o p
      have hcl := r_cnt_le R q k
      obtain ⟨r0, r1, r2, r3, r4, r5⟩ := r
      have r0' := r0; have r5' := r5; rw [p.1] at r0' r5'
      refine mj_iload_n 0 dX6_remove_4 rfl ?_
      refine mj_aload_n 2 dX6_remove_5 rfl ?_
      refine mj_getf dX6_remove_6 fgX6_32 (by repeat (first | assumption | exact mup_s _ _ _ | rw [mup_n _ _ (by omega)])) rfl ?_
      refine mj_icmp_ge 36 dX6_remove_9 (by decide) (fun c_9 => ?_) (fun c_9 => ?_)
      · exact absurd c_9 (nI_ge (by omega) (by omega))
      · refine mj_aload_n 2 dX6_remove_12 rfl ?_
        refine mj_iload_n 0 dX6_remove_13 rfl ?_
        refine mj_iload_n 3 dX6_remove_14 rfl ?_
        refine mj_cV1 [_, _] (RX6, TX6, 5) dX6_remove_15 cwX6_isOf lkX6_58 (by repeat (first | assumption | exact mup_s _ _ _ | rw [mup_n _ _ (by omega)])) rfl rfl rfl rfl (cn_X6_isOf ⟨r0, r1, r2, r3, r4, r5⟩ (ixn (by omega)) (by omega)) ⟨Nat.le_of_ble_eq_true rfl, Nat.le_of_ble_eq_true rfl, Nat.le_of_ble_eq_true rfl, Nat.le_of_ble_eq_true rfl, Nat.le_of_ble_eq_true rfl⟩ (fun h' e' => ?_)
        subst e'
        refine mj_if_ne 30 dX6_remove_18 (by decide) (fun c_18 => ?_) (fun c_18 => ?_)
        · have e5 := bI_n0.mp c_18
          rw [p.of] at e5
          refine mj_iinc (ls' := [(3, _), (2, _), (0, _), (1, _)]) 0 dX6_remove_30 rfl (nI_s _) (Nat.le_of_ble_eq_true rfl) rfl ?_
          refine mj_goto 4 dX6_remove_33 (by decide) ?_
          first
            | exact mj_ls [0, 1, 2, 3] rfl (ih (k + 1) c R1 _ (by omega) (by simp only [r_cnt, e5]; exact hc) ⟨r0, r1, r2, r3, r4, r5⟩ o (p.skip e5))
            | exact mj_ls [0, 1, 2, 3] rfl (ih (k + 1) (c + 1) _ h' (by omega) (by simp only [r_cnt, e5, hc]; rfl) hr' (o.tr ho') (by rw [hc]; exact p.keep e5))
        · have e5 := bI_0.mp c_18
          rw [p.of] at e5
          refine mj_aload_n 2 dX6_remove_21 rfl ?_
          refine mj_iload_n 0 dX6_remove_22 rfl ?_
          refine mj_iload_n 1 dX6_remove_23 rfl ?_
          refine mj_cV0 [_, _] (RX6, TX6, 5) dX6_remove_24 cwX6_moveStop lkX6_98 (by repeat (first | assumption | exact mup_s _ _ _ | rw [mup_n _ _ (by omega)])) rfl rfl rfl rfl (cn_X6_moveStop ⟨r0, r1, r2, r3, r4, r5⟩ (j := k) (ixn (by omega)) (by omega) (l := c) (ixn (by omega)) (by omega)) ⟨Nat.le_of_ble_eq_true rfl, Nat.le_of_ble_eq_true rfl, Nat.le_of_ble_eq_true rfl, Nat.le_of_ble_eq_true rfl, Nat.le_of_ble_eq_true rfl⟩ (fun h' e' => ?_)
          obtain ⟨hr', ho'⟩ := e'
          refine mj_iinc (ls' := [(2, _), (3, _), (0, _), (1, _)]) 1 dX6_remove_27 rfl (nI_s _) (Nat.le_of_ble_eq_true rfl) rfl ?_
          refine mj_iinc (ls' := [(3, _), (2, _), (0, _), (1, _)]) 1 dX6_remove_30 rfl (nI_s _) (Nat.le_of_ble_eq_true rfl) rfl ?_
          refine mj_goto 4 dX6_remove_33 (by decide) ?_
          first
            | exact mj_ls [0, 1, 2, 3] rfl (ih (k + 1) c R1 _ (by omega) (by simp only [r_cnt, e5]; exact hc) ⟨r0, r1, r2, r3, r4, r5⟩ o (p.skip e5))
            | exact mj_ls [0, 1, 2, 3] rfl (ih (k + 1) (c + 1) _ h' (by omega) (by simp only [r_cnt, e5, hc]; rfl) hr' (o.tr ho') (by rw [hc]; exact p.keep e5))
  refine mj_iconst (v := 0) dX6_remove_0 rfl ?_
  refine mj_istore_n (ls' := [(2, _), (0, _), (1, _)]) dX6_remove_1 (Nat.le_of_ble_eq_true rfl) rfl ?_
  refine mj_iconst (v := 0) dX6_remove_2 rfl ?_
  refine mj_istore_n (ls' := [(3, _), (2, _), (0, _), (1, _)]) dX6_remove_3 (Nat.le_of_ble_eq_true rfl) rfl ?_
  exact mj_ls [0, 1, 2, 3] rfl (loop (rn R) 0 0 R h (by omega) rfl r Off.rf ⟨rfl, fun s hs => absurd hs (by omega), fun _ _ => rfl⟩)
