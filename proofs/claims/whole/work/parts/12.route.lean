-- CARPOOL AND ROUTE, the small methods: what they answer, in the machine's own numbers
def i_abs (x : Int32) : Int32 := if 0 ≤ x then x else 0 - x
def i_dist (x y u v : Int32) : Int32 := i_abs (x - u) + i_abs (y - v)
-- the class's own distance (the reference's is i_dist): the same for places of the plane
def k_abs (x u : Int32) : Int32 := if u ≤ x then x - u else u - x
def k_dist (x y u v : Int32) : Int32 := k_abs x u + k_abs y v
def b_in (v l u : Int32) : Bool := decide (l ≤ v) && decide (v ≤ u)
def bI (b : Bool) : Int32 := if b then 1 else 0
theorem bI_or (b : Bool) : bI b = 0 ∨ bI b = 1 := by cases b <;> simp [bI]
theorem bI_0 {b : Bool} : bI b = 0 ↔ b = false := by cases b <;> simp [bI]
theorem bI_n0 {b : Bool} : ¬ bI b = 0 ↔ b = true := by cases b <;> simp [bI]
theorem b_in_t {v l u : Int32} (h1 : ¬ v < l) (h2 : ¬ u < v) : b_in v l u = true := by simp [b_in, Int32.not_lt.mp h1, Int32.not_lt.mp h2]
theorem b_in_f1 {v l u : Int32} (h : v < l) : b_in v l u = false := by simp [b_in, Int32.not_le.mpr h]
theorem b_in_f2 {v l u : Int32} (h : u < v) : b_in v l u = false := by simp [b_in, Int32.not_le.mpr h]
-- a route at a: its object and four rows
abbrev RS : Type := Nat × (Nat → Int32) × (Nat → Int32) × (Nat → Int32) × (Nat → Int32)
abbrev rn (R : RS) : Nat := R.1
abbrev rc (R : RS) : Nat → Int32 := R.2.1
abbrev rx (R : RS) : Nat → Int32 := R.2.2.1
abbrev ry (R : RS) : Nat → Int32 := R.2.2.2.1
abbrev rt (R : RS) : Nat → Int32 := R.2.2.2.2
def Rt (h : MH) (a : Nat) (R : RS) : Prop := h a = some (cO 6 [.ref (a + 1), .ref (a + 2), .ref (a + 3), .ref (a + 4), .int (nI (rn R))]) ∧ h (a + 1) = some (cI 42 (rc R)) ∧ h (a + 2) = some (cI 42 (rx R)) ∧ h (a + 3) = some (cI 42 (ry R)) ∧ h (a + 4) = some (cI 42 (rt R)) ∧ rn R ≤ 42
theorem Rt.off {h h' : MH} {a c d : Nat} {R : RS} (r : Rt h a R) (o : Off c d h h') (e : a + 5 ≤ c ∨ d ≤ a) : Rt h' a R := by
  obtain ⟨h0, h1, h2, h3, h4, h5⟩ := r
  exact ⟨o.at h0 (by omega), o.at h1 (by omega), o.at h2 (by omega), o.at h3 (by omega), o.at h4 (by omega), h5⟩
set_option maxRecDepth 100000 in
set_option maxHeartbeats 4000000 in
theorem cn_X10_distance {K : KX} {n : Nat} {h : MH} (x y u v : Int32) : Con K mX10_distance [.int x, .int y, .int u, .int v] 0 0 n h (Ret (some (.int (k_dist x y u v))) n h) := by
  refine Con.of (by decide +kernel) (Nat.le_of_ble_eq_true rfl) ?_
  refine mj_iload_n 0 dX10_distance_0 rfl ?_
  refine mj_iload_n 2 dX10_distance_1 rfl ?_
  refine mj_icmp_ge 11 dX10_distance_2 (by decide) (fun c_2 => ?_) (fun c_2 => ?_)
  · have k_2 : k_abs x u = x - u := if_pos c_2
    refine mj_iload_n 0 dX10_distance_11 rfl ?_
    refine mj_iload_n 2 dX10_distance_12 rfl ?_
    refine mj_isub dX10_distance_13 ?_
    refine mj_istore (ls' := [(4, _), (0, _), (1, _), (2, _), (3, _)]) dX10_distance_14 (Nat.le_of_ble_eq_true rfl) rfl ?_
    refine mj_iload_n 2 dX10_distance_16 rfl ?_
    refine mj_iload_n 4 dX10_distance_17 rfl ?_
    refine mj_icmp_ge 27 dX10_distance_18 (by decide) (fun c_18 => ?_) (fun c_18 => ?_)
    · have k_18 : k_abs y v = y - v := if_pos c_18
      refine mj_iload_n 2 dX10_distance_27 rfl ?_
      refine mj_iload_n 4 dX10_distance_28 rfl ?_
      refine mj_isub dX10_distance_29 ?_
      refine mj_istore (ls' := [(5, _), (4, _), (0, _), (1, _), (2, _), (3, _)]) dX10_distance_30 (Nat.le_of_ble_eq_true rfl) rfl ?_
      refine mj_iload 1 dX10_distance_32 rfl ?_
      refine mj_iload 0 dX10_distance_34 rfl ?_
      refine mj_iadd dX10_distance_36 ?_
      exact mj_iret dX10_distance_37 rfl (Nat.le_of_ble_eq_true rfl) (Nat.le_of_ble_eq_true rfl) ⟨(by rw [k_dist, k_2, k_18]), rfl, rfl⟩
    · have k_18 : k_abs y v = v - y := if_neg c_18
      refine mj_iload_n 4 dX10_distance_21 rfl ?_
      refine mj_iload_n 2 dX10_distance_22 rfl ?_
      refine mj_isub dX10_distance_23 ?_
      refine mj_goto 30 dX10_distance_24 (by decide) ?_
      refine mj_istore (ls' := [(5, _), (4, _), (0, _), (1, _), (2, _), (3, _)]) dX10_distance_30 (Nat.le_of_ble_eq_true rfl) rfl ?_
      refine mj_iload 1 dX10_distance_32 rfl ?_
      refine mj_iload 0 dX10_distance_34 rfl ?_
      refine mj_iadd dX10_distance_36 ?_
      exact mj_iret dX10_distance_37 rfl (Nat.le_of_ble_eq_true rfl) (Nat.le_of_ble_eq_true rfl) ⟨(by rw [k_dist, k_2, k_18]), rfl, rfl⟩
  · have k_2 : k_abs x u = u - x := if_neg c_2
    refine mj_iload_n 2 dX10_distance_5 rfl ?_
    refine mj_iload_n 0 dX10_distance_6 rfl ?_
    refine mj_isub dX10_distance_7 ?_
    refine mj_goto 14 dX10_distance_8 (by decide) ?_
    refine mj_istore (ls' := [(4, _), (0, _), (1, _), (2, _), (3, _)]) dX10_distance_14 (Nat.le_of_ble_eq_true rfl) rfl ?_
    refine mj_iload_n 2 dX10_distance_16 rfl ?_
    refine mj_iload_n 4 dX10_distance_17 rfl ?_
    refine mj_icmp_ge 27 dX10_distance_18 (by decide) (fun c_18 => ?_) (fun c_18 => ?_)
    · have k_18 : k_abs y v = y - v := if_pos c_18
      refine mj_iload_n 2 dX10_distance_27 rfl ?_
      refine mj_iload_n 4 dX10_distance_28 rfl ?_
      refine mj_isub dX10_distance_29 ?_
      refine mj_istore (ls' := [(5, _), (4, _), (0, _), (1, _), (2, _), (3, _)]) dX10_distance_30 (Nat.le_of_ble_eq_true rfl) rfl ?_
      refine mj_iload 1 dX10_distance_32 rfl ?_
      refine mj_iload 0 dX10_distance_34 rfl ?_
      refine mj_iadd dX10_distance_36 ?_
      exact mj_iret dX10_distance_37 rfl (Nat.le_of_ble_eq_true rfl) (Nat.le_of_ble_eq_true rfl) ⟨(by rw [k_dist, k_2, k_18]), rfl, rfl⟩
    · have k_18 : k_abs y v = v - y := if_neg c_18
      refine mj_iload_n 4 dX10_distance_21 rfl ?_
      refine mj_iload_n 2 dX10_distance_22 rfl ?_
      refine mj_isub dX10_distance_23 ?_
      refine mj_goto 30 dX10_distance_24 (by decide) ?_
      refine mj_istore (ls' := [(5, _), (4, _), (0, _), (1, _), (2, _), (3, _)]) dX10_distance_30 (Nat.le_of_ble_eq_true rfl) rfl ?_
      refine mj_iload 1 dX10_distance_32 rfl ?_
      refine mj_iload 0 dX10_distance_34 rfl ?_
      refine mj_iadd dX10_distance_36 ?_
      exact mj_iret dX10_distance_37 rfl (Nat.le_of_ble_eq_true rfl) (Nat.le_of_ble_eq_true rfl) ⟨(by rw [k_dist, k_2, k_18]), rfl, rfl⟩
set_option maxRecDepth 100000 in
set_option maxHeartbeats 4000000 in
theorem cn_X10_isWithin {K : KX} {n : Nat} {h : MH} (v l u : Int32) : Con K mX10_isWithin [.int v, .int l, .int u] 0 0 n h (Ret (some (.int (bI (b_in v l u)))) n h) := by
  refine Con.of (by decide +kernel) (Nat.le_of_ble_eq_true rfl) ?_
  refine mj_iload_n 1 dX10_isWithin_0 rfl ?_
  refine mj_iload_n 0 dX10_isWithin_1 rfl ?_
  refine mj_icmp_gt 14 dX10_isWithin_2 (by decide) (fun c_2 => ?_) (fun c_2 => ?_)
  · refine mj_iconst (v := 0) dX10_isWithin_14 rfl ?_
    exact mj_zret dX10_isWithin_15 rfl (by first | exact Or.inl rfl | exact Or.inr rfl) (Nat.le_of_ble_eq_true rfl) (Nat.le_of_ble_eq_true rfl) ⟨(by first | rw [b_in_f1 c_2]; rfl | rw [b_in_f2 c_7]; rfl | rw [b_in_t c_2 c_7]; rfl), rfl, rfl⟩
  · refine mj_iload_n 0 dX10_isWithin_5 rfl ?_
    refine mj_iload_n 2 dX10_isWithin_6 rfl ?_
    refine mj_icmp_gt 14 dX10_isWithin_7 (by decide) (fun c_7 => ?_) (fun c_7 => ?_)
    · refine mj_iconst (v := 0) dX10_isWithin_14 rfl ?_
      exact mj_zret dX10_isWithin_15 rfl (by first | exact Or.inl rfl | exact Or.inr rfl) (Nat.le_of_ble_eq_true rfl) (Nat.le_of_ble_eq_true rfl) ⟨(by first | rw [b_in_f1 c_2]; rfl | rw [b_in_f2 c_7]; rfl | rw [b_in_t c_2 c_7]; rfl), rfl, rfl⟩
    · refine mj_iconst (v := 1) dX10_isWithin_10 rfl ?_
      refine mj_goto 15 dX10_isWithin_11 (by decide) ?_
      exact mj_zret dX10_isWithin_15 rfl (by first | exact Or.inl rfl | exact Or.inr rfl) (Nat.le_of_ble_eq_true rfl) (Nat.le_of_ble_eq_true rfl) ⟨(by first | rw [b_in_f1 c_2]; rfl | rw [b_in_f2 c_7]; rfl | rw [b_in_t c_2 c_7]; rfl), rfl, rfl⟩
def r_pick (R : RS) (j : Nat) : Bool := decide (0 ≤ rc R j) && decide (rc R j < 100)
def r_drop (R : RS) (j : Nat) : Bool := decide (100 ≤ rc R j)
def r_of (R : RS) (j : Nat) (r : Int32) : Bool := decide (rc R j = r) || decide (rc R j = 100 + r)
def r_step (R : RS) (i j : Nat) : Int32 := k_dist (rx R i) (ry R i) (rx R j) (ry R j)
set_option maxRecDepth 100000 in
set_option maxHeartbeats 4000000 in
theorem cn_X6_isPickup {K : KX} {n : Nat} {h : MH} {a : Nat} {R : RS} (r : Rt h a R) {j : Nat} {i : Int32} (hi : i.toInt = (j : Int)) (hj : j < 42) : Con K mX6_isPickup [.ref a, .int i] 0 0 n h (Ret (some (.int (bI (r_pick R j)))) n h) := by
  obtain ⟨r0, r1, r2, r3, r4, r5⟩ := r
  refine Con.of (by decide +kernel) (Nat.le_of_ble_eq_true rfl) ?_
  refine mj_iconst (v := 0) dX6_isPickup_0 rfl ?_
  refine mj_aload_n 0 dX6_isPickup_1 rfl ?_
  refine mj_getf dX6_isPickup_2 fgX6_9 (by repeat (first | assumption | exact mup_s _ _ _ | rw [mup_n _ _ (by omega)])) rfl ?_
  refine mj_iload_n 1 dX6_isPickup_5 rfl ?_
  refine mj_iald (by repeat (first | assumption | exact mup_s _ _ _ | rw [mup_n _ _ (by omega)])) (by first | assumption | rfl | exact ixn (by omega)) (by first | assumption | decide | omega) dX6_isPickup_6 ?_
  refine mj_icmp_gt 25 dX6_isPickup_7 (by decide) (fun c_7 => ?_) (fun c_7 => ?_)
  · refine mj_iconst (v := 0) dX6_isPickup_25 rfl ?_
    exact mj_zret dX6_isPickup_26 rfl (by first | exact Or.inl rfl | exact Or.inr rfl) (Nat.le_of_ble_eq_true rfl) (Nat.le_of_ble_eq_true rfl) ⟨(by first | rfl | (simp [bI, r_pick, *]; done) | (simp only [bI, r_pick, Bool.and_eq_true, Bool.or_eq_true, decide_eq_true_eq]; split <;> simp_all [Int32.lt_iff_toInt_lt, Int32.le_iff_toInt_le] <;> omega)), rfl, rfl⟩
  · refine mj_aload_n 0 dX6_isPickup_10 rfl ?_
    refine mj_getf dX6_isPickup_11 fgX6_9 (by repeat (first | assumption | exact mup_s _ _ _ | rw [mup_n _ _ (by omega)])) rfl ?_
    refine mj_iload_n 1 dX6_isPickup_14 rfl ?_
    refine mj_iald (by repeat (first | assumption | exact mup_s _ _ _ | rw [mup_n _ _ (by omega)])) (by first | assumption | rfl | exact ixn (by omega)) (by first | assumption | decide | omega) dX6_isPickup_15 ?_
    refine mj_bipush (v := (100)) dX6_isPickup_16 rfl ?_
    refine mj_icmp_ge 25 dX6_isPickup_18 (by decide) (fun c_18 => ?_) (fun c_18 => ?_)
    · refine mj_iconst (v := 0) dX6_isPickup_25 rfl ?_
      exact mj_zret dX6_isPickup_26 rfl (by first | exact Or.inl rfl | exact Or.inr rfl) (Nat.le_of_ble_eq_true rfl) (Nat.le_of_ble_eq_true rfl) ⟨(by first | rfl | (simp [bI, r_pick, *]; done) | (simp only [bI, r_pick, Bool.and_eq_true, Bool.or_eq_true, decide_eq_true_eq]; split <;> simp_all [Int32.lt_iff_toInt_lt, Int32.le_iff_toInt_le] <;> omega)), rfl, rfl⟩
    · refine mj_iconst (v := 1) dX6_isPickup_21 rfl ?_
      refine mj_goto 26 dX6_isPickup_22 (by decide) ?_
      exact mj_zret dX6_isPickup_26 rfl (by first | exact Or.inl rfl | exact Or.inr rfl) (Nat.le_of_ble_eq_true rfl) (Nat.le_of_ble_eq_true rfl) ⟨(by first | rfl | (simp [bI, r_pick, *]; done) | (simp only [bI, r_pick, Bool.and_eq_true, Bool.or_eq_true, decide_eq_true_eq]; split <;> simp_all [Int32.lt_iff_toInt_lt, Int32.le_iff_toInt_le] <;> omega)), rfl, rfl⟩
set_option maxRecDepth 100000 in
set_option maxHeartbeats 4000000 in
theorem cn_X6_isDrop {K : KX} {n : Nat} {h : MH} {a : Nat} {R : RS} (r : Rt h a R) {j : Nat} {i : Int32} (hi : i.toInt = (j : Int)) (hj : j < 42) : Con K mX6_isDrop [.ref a, .int i] 0 0 n h (Ret (some (.int (bI (r_drop R j)))) n h) := by
  obtain ⟨r0, r1, r2, r3, r4, r5⟩ := r
  refine Con.of (by decide +kernel) (Nat.le_of_ble_eq_true rfl) ?_
  refine mj_aload_n 0 dX6_isDrop_0 rfl ?_
  refine mj_getf dX6_isDrop_1 fgX6_9 (by repeat (first | assumption | exact mup_s _ _ _ | rw [mup_n _ _ (by omega)])) rfl ?_
  refine mj_iload_n 1 dX6_isDrop_4 rfl ?_
  refine mj_iald (by repeat (first | assumption | exact mup_s _ _ _ | rw [mup_n _ _ (by omega)])) (by first | assumption | rfl | exact ixn (by omega)) (by first | assumption | decide | omega) dX6_isDrop_5 ?_
  refine mj_bipush (v := (100)) dX6_isDrop_6 rfl ?_
  refine mj_icmp_lt 15 dX6_isDrop_8 (by decide) (fun c_8 => ?_) (fun c_8 => ?_)
  · refine mj_iconst (v := 0) dX6_isDrop_15 rfl ?_
    exact mj_zret dX6_isDrop_16 rfl (by first | exact Or.inl rfl | exact Or.inr rfl) (Nat.le_of_ble_eq_true rfl) (Nat.le_of_ble_eq_true rfl) ⟨(by first | rfl | (simp [bI, r_drop, *]; done) | (simp only [bI, r_drop, Bool.and_eq_true, Bool.or_eq_true, decide_eq_true_eq]; split <;> simp_all [Int32.lt_iff_toInt_lt, Int32.le_iff_toInt_le] <;> omega)), rfl, rfl⟩
  · refine mj_iconst (v := 1) dX6_isDrop_11 rfl ?_
    refine mj_goto 16 dX6_isDrop_12 (by decide) ?_
    exact mj_zret dX6_isDrop_16 rfl (by first | exact Or.inl rfl | exact Or.inr rfl) (Nat.le_of_ble_eq_true rfl) (Nat.le_of_ble_eq_true rfl) ⟨(by first | rfl | (simp [bI, r_drop, *]; done) | (simp only [bI, r_drop, Bool.and_eq_true, Bool.or_eq_true, decide_eq_true_eq]; split <;> simp_all [Int32.lt_iff_toInt_lt, Int32.le_iff_toInt_le] <;> omega)), rfl, rfl⟩
set_option maxRecDepth 100000 in
set_option maxHeartbeats 4000000 in
theorem cn_X6_isOf {K : KX} {n : Nat} {h : MH} {a : Nat} {R : RS} (r : Rt h a R) {j : Nat} {i : Int32} (hi : i.toInt = (j : Int)) (hj : j < 42) {q : Int32} : Con K mX6_isOf [.ref a, .int i, .int q] 0 0 n h (Ret (some (.int (bI (r_of R j q)))) n h) := by
  obtain ⟨r0, r1, r2, r3, r4, r5⟩ := r
  refine Con.of (by decide +kernel) (Nat.le_of_ble_eq_true rfl) ?_
  refine mj_aload_n 0 dX6_isOf_0 rfl ?_
  refine mj_getf dX6_isOf_1 fgX6_9 (by repeat (first | assumption | exact mup_s _ _ _ | rw [mup_n _ _ (by omega)])) rfl ?_
  refine mj_iload_n 1 dX6_isOf_4 rfl ?_
  refine mj_iald (by repeat (first | assumption | exact mup_s _ _ _ | rw [mup_n _ _ (by omega)])) (by first | assumption | rfl | exact ixn (by omega)) (by first | assumption | decide | omega) dX6_isOf_5 ?_
  refine mj_iload_n 2 dX6_isOf_6 rfl ?_
  refine mj_icmp_eq 23 dX6_isOf_7 (by decide) (fun c_7 => ?_) (fun c_7 => ?_)
  · refine mj_iconst (v := 1) dX6_isOf_23 rfl ?_
    refine mj_goto 28 dX6_isOf_24 (by decide) ?_
    exact mj_zret dX6_isOf_28 rfl (by first | exact Or.inl rfl | exact Or.inr rfl) (Nat.le_of_ble_eq_true rfl) (Nat.le_of_ble_eq_true rfl) ⟨(by first | rfl | (simp [bI, r_of, *]; done) | (simp only [bI, r_of, Bool.and_eq_true, Bool.or_eq_true, decide_eq_true_eq]; split <;> simp_all [Int32.lt_iff_toInt_lt, Int32.le_iff_toInt_le] <;> omega)), rfl, rfl⟩
  · refine mj_aload_n 0 dX6_isOf_10 rfl ?_
    refine mj_getf dX6_isOf_11 fgX6_9 (by repeat (first | assumption | exact mup_s _ _ _ | rw [mup_n _ _ (by omega)])) rfl ?_
    refine mj_iload_n 1 dX6_isOf_14 rfl ?_
    refine mj_iald (by repeat (first | assumption | exact mup_s _ _ _ | rw [mup_n _ _ (by omega)])) (by first | assumption | rfl | exact ixn (by omega)) (by first | assumption | decide | omega) dX6_isOf_15 ?_
    refine mj_bipush (v := (100)) dX6_isOf_16 rfl ?_
    refine mj_iload_n 2 dX6_isOf_18 rfl ?_
    refine mj_iadd dX6_isOf_19 ?_
    refine mj_icmp_ne 27 dX6_isOf_20 (by decide) (fun c_20 => ?_) (fun c_20 => ?_)
    · refine mj_iconst (v := 0) dX6_isOf_27 rfl ?_
      exact mj_zret dX6_isOf_28 rfl (by first | exact Or.inl rfl | exact Or.inr rfl) (Nat.le_of_ble_eq_true rfl) (Nat.le_of_ble_eq_true rfl) ⟨(by first | rfl | (simp [bI, r_of, *]; done) | (simp only [bI, r_of, Bool.and_eq_true, Bool.or_eq_true, decide_eq_true_eq]; split <;> simp_all [Int32.lt_iff_toInt_lt, Int32.le_iff_toInt_le] <;> omega)), rfl, rfl⟩
    · refine mj_iconst (v := 1) dX6_isOf_23 rfl ?_
      refine mj_goto 28 dX6_isOf_24 (by decide) ?_
      exact mj_zret dX6_isOf_28 rfl (by first | exact Or.inl rfl | exact Or.inr rfl) (Nat.le_of_ble_eq_true rfl) (Nat.le_of_ble_eq_true rfl) ⟨(by first | rfl | (simp [bI, r_of, *]; done) | (simp only [bI, r_of, Bool.and_eq_true, Bool.or_eq_true, decide_eq_true_eq]; split <;> simp_all [Int32.lt_iff_toInt_lt, Int32.le_iff_toInt_le] <;> omega)), rfl, rfl⟩
set_option maxRecDepth 100000 in
set_option maxHeartbeats 4000000 in
theorem cn_X6_step {K : KX} {n : Nat} {h : MH} {a : Nat} {R : RS} (r : Rt h a R) {j1 j2 : Nat} {i1 i2 : Int32} (hi1 : i1.toInt = (j1 : Int)) (hj1 : j1 < 42) (hi2 : i2.toInt = (j2 : Int)) (hj2 : j2 < 42) : Con K mX6_step [.ref a, .int i1, .int i2] 0 0 n h (Ret (some (.int (r_step R j1 j2))) n h) := by
  obtain ⟨r0, r1, r2, r3, r4, r5⟩ := r
  refine Con.of (by decide +kernel) (Nat.le_of_ble_eq_true rfl) ?_
  refine mj_aload_n 0 dX6_step_0 rfl ?_
  refine mj_getf dX6_step_1 fgX6_15 (by repeat (first | assumption | exact mup_s _ _ _ | rw [mup_n _ _ (by omega)])) rfl ?_
  refine mj_iload_n 1 dX6_step_4 rfl ?_
  refine mj_iald (by repeat (first | assumption | exact mup_s _ _ _ | rw [mup_n _ _ (by omega)])) (by first | assumption | rfl | exact ixn (by omega)) (by first | assumption | decide | omega) dX6_step_5 ?_
  refine mj_aload_n 0 dX6_step_6 rfl ?_
  refine mj_getf dX6_step_7 fgX6_18 (by repeat (first | assumption | exact mup_s _ _ _ | rw [mup_n _ _ (by omega)])) rfl ?_
  refine mj_iload_n 1 dX6_step_10 rfl ?_
  refine mj_iald (by repeat (first | assumption | exact mup_s _ _ _ | rw [mup_n _ _ (by omega)])) (by first | assumption | rfl | exact ixn (by omega)) (by first | assumption | decide | omega) dX6_step_11 ?_
  refine mj_aload_n 0 dX6_step_12 rfl ?_
  refine mj_getf dX6_step_13 fgX6_15 (by repeat (first | assumption | exact mup_s _ _ _ | rw [mup_n _ _ (by omega)])) rfl ?_
  refine mj_iload_n 2 dX6_step_16 rfl ?_
  refine mj_iald (by repeat (first | assumption | exact mup_s _ _ _ | rw [mup_n _ _ (by omega)])) (by first | assumption | rfl | exact ixn (by omega)) (by first | assumption | decide | omega) dX6_step_17 ?_
  refine mj_aload_n 0 dX6_step_18 rfl ?_
  refine mj_getf dX6_step_19 fgX6_18 (by repeat (first | assumption | exact mup_s _ _ _ | rw [mup_n _ _ (by omega)])) rfl ?_
  refine mj_iload_n 2 dX6_step_22 rfl ?_
  refine mj_iald (by repeat (first | assumption | exact mup_s _ _ _ | rw [mup_n _ _ (by omega)])) (by first | assumption | rfl | exact ixn (by omega)) (by first | assumption | decide | omega) dX6_step_23 ?_
  refine mj_cS1 [_, _, _, _] dX6_step_24 cwX10_distance lkX6_50 rfl (cn_X10_distance _ _ _ _) ⟨Nat.le_of_ble_eq_true rfl, Nat.le_of_ble_eq_true rfl, Nat.le_of_ble_eq_true rfl, Nat.le_of_ble_eq_true rfl, Nat.le_of_ble_eq_true rfl⟩ (fun h' e' => ?_)
  subst e'
  exact mj_iret dX6_step_27 rfl (Nat.le_of_ble_eq_true rfl) (Nat.le_of_ble_eq_true rfl) ⟨rfl, rfl, rfl⟩
/-- the length up to stop k -/
def r_lenTo (R : RS) : Nat → Int32
  | 0 => 0
  | k + 1 => r_lenTo R k + r_step R k (k + 1)
def r_len (R : RS) : Int32 := r_lenTo R (rn R - 1)
theorem ge_nI {a b : Nat} (ha : a < 2147483648) (hb : b < 2147483648) : (nI b ≤ nI a) ↔ b ≤ a := nI_leI hb ha
set_option maxRecDepth 100000 in
set_option maxHeartbeats 4000000 in
theorem cn_X6_length {K : KX} {n : Nat} {h : MH} {a : Nat} {R : RS} (r : Rt h a R) (h2 : 1 ≤ rn R) : Con K mX6_length [.ref a] 0 0 n h (Ret (some (.int (r_len R))) n h) := by
  obtain ⟨r0, r1, r2, r3, r4, r5⟩ := r
  refine Con.of (by decide +kernel) (Nat.le_of_ble_eq_true rfl) ?_
  have loop : ∀ f k : Nat, k + f + 1 = rn R → GG (K, mX6_length, 0, 0, Ret (some (.int (r_len R))) n h) 0 0 4 [(2, .int (nI (k + 1))), (1, .int (r_lenTo R k)), (0, .ref a)] [] n h := by
    intro f
    induction f with
    | zero =>
      intro k hk
      refine mj_iload_n 0 dX6_length_4 rfl ?_
      refine mj_aload_n 2 dX6_length_5 rfl ?_
      refine mj_getf dX6_length_6 fgX6_32 (by repeat (first | assumption | exact mup_s _ _ _ | rw [mup_n _ _ (by omega)])) rfl ?_
      refine mj_icmp_ge 29 dX6_length_9 (by decide) (fun c_9 => ?_) (fun c_9 => ?_)
      · refine mj_iload_n 1 dX6_length_29 rfl ?_
        exact mj_iret dX6_length_30 rfl (Nat.le_of_ble_eq_true rfl) (Nat.le_of_ble_eq_true rfl) ⟨(by rw [show k = rn R - 1 by omega]; rfl), rfl, rfl⟩
      · exact absurd (nI_le (by omega) (by omega)) c_9
    | succ f ih =>
      intro k hk
      refine mj_iload_n 0 dX6_length_4 rfl ?_
      refine mj_aload_n 2 dX6_length_5 rfl ?_
      refine mj_getf dX6_length_6 fgX6_32 (by repeat (first | assumption | exact mup_s _ _ _ | rw [mup_n _ _ (by omega)])) rfl ?_
      refine mj_icmp_ge 29 dX6_length_9 (by decide) (fun c_9 => ?_) (fun c_9 => ?_)
      · exact absurd c_9 (nI_ge (by omega) (by omega))
      · refine mj_iload_n 1 dX6_length_12 rfl ?_
        refine mj_aload_n 2 dX6_length_13 rfl ?_
        refine mj_iload_n 0 dX6_length_14 rfl ?_
        refine mj_iconst (v := 1) dX6_length_15 rfl ?_
        refine mj_isub dX6_length_16 ?_
        refine mj_eq (nI_p _) ?_
        refine mj_iload_n 0 dX6_length_17 rfl ?_
        refine mj_cV1 [_, _] (RX6, TX6, 5) dX6_length_18 cwX6_step lkX6_54 (by repeat (first | assumption | exact mup_s _ _ _ | rw [mup_n _ _ (by omega)])) rfl rfl rfl rfl (cn_X6_step ⟨r0, r1, r2, r3, r4, r5⟩ (ixn (by omega)) (by omega) (ixn (by omega)) (by omega)) ⟨Nat.le_of_ble_eq_true rfl, Nat.le_of_ble_eq_true rfl, Nat.le_of_ble_eq_true rfl, Nat.le_of_ble_eq_true rfl, Nat.le_of_ble_eq_true rfl⟩ (fun h' e' => ?_)
        subst e'
        refine mj_iadd dX6_length_21 ?_
        refine mj_istore_n (ls' := [(1, _), (2, _), (0, _)]) dX6_length_22 (Nat.le_of_ble_eq_true rfl) rfl ?_
        refine mj_iinc (ls' := [(2, _), (1, _), (0, _)]) 1 dX6_length_23 rfl (nI_s _) (Nat.le_of_ble_eq_true rfl) rfl ?_
        refine mj_goto 4 dX6_length_26 (by decide) ?_
        exact mj_ls [0, 1, 2] rfl (ih (k + 1) (by omega))
  refine mj_iconst (v := 0) dX6_length_0 rfl ?_
  refine mj_istore_n (ls' := [(1, _), (0, _)]) dX6_length_1 (Nat.le_of_ble_eq_true rfl) rfl ?_
  refine mj_iconst (v := 1) dX6_length_2 rfl ?_
  refine mj_istore_n (ls' := [(2, _), (1, _), (0, _)]) dX6_length_3 (Nat.le_of_ble_eq_true rfl) rfl ?_
  exact loop (rn R - 1) 0 (by omega)
set_option maxRecDepth 100000 in
set_option maxHeartbeats 4000000 in
theorem cn_X6_riderTotal {K : KX} {n : Nat} {h : MH} {a : Nat} {R : RS} (r : Rt h a R) : Con K mX6_riderTotal [.ref a] 0 0 n h (Ret (some (.int ((nI (rn R) - 2) / 2))) n h) := by
  obtain ⟨r0, r1, r2, r3, r4, r5⟩ := r
  refine Con.of (by decide +kernel) (Nat.le_of_ble_eq_true rfl) ?_
  refine mj_aload_n 0 dX6_riderTotal_0 rfl ?_
  refine mj_getf dX6_riderTotal_1 fgX6_32 (by repeat (first | assumption | exact mup_s _ _ _ | rw [mup_n _ _ (by omega)])) rfl ?_
  refine mj_iconst (v := 2) dX6_riderTotal_4 rfl ?_
  refine mj_isub dX6_riderTotal_5 ?_
  refine mj_iconst (v := 2) dX6_riderTotal_6 rfl ?_
  refine mj_idiv dX6_riderTotal_7 (by decide) ?_
  exact mj_iret dX6_riderTotal_8 rfl (Nat.le_of_ble_eq_true rfl) (Nat.le_of_ble_eq_true rfl) ⟨rfl, rfl, rfl⟩
def i_max (x y : Int32) : Int32 := if x < y then y else x
def r_lv (R : RS) (j : Nat) (w : Int32) : Int32 := if r_pick R j then i_max w (rt R j) else w
set_option maxRecDepth 100000 in
set_option maxHeartbeats 4000000 in
theorem cn_X6_leaving {K : KX} {n : Nat} {h : MH} {a : Nat} {R : RS} (r : Rt h a R) {j : Nat} {i w : Int32} (hi : i.toInt = (j : Int)) (hj : j < 42) : Con K mX6_leaving [.ref a, .int i, .int w] 0 0 n h (Ret (some (.int (r_lv R j w))) n h) := by
  obtain ⟨r0, r1, r2, r3, r4, r5⟩ := r
  refine Con.of (by decide +kernel) (Nat.le_of_ble_eq_true rfl) ?_
  refine mj_aload_n 0 dX6_leaving_0 rfl ?_
  refine mj_iload_n 1 dX6_leaving_1 rfl ?_
  refine mj_cV1 [_] (RX6, TX6, 5) dX6_leaving_2 cwX6_isPickup lkX6_42 (by repeat (first | assumption | exact mup_s _ _ _ | rw [mup_n _ _ (by omega)])) rfl rfl rfl rfl (cn_X6_isPickup ⟨r0, r1, r2, r3, r4, r5⟩ hi hj) ⟨Nat.le_of_ble_eq_true rfl, Nat.le_of_ble_eq_true rfl, Nat.le_of_ble_eq_true rfl, Nat.le_of_ble_eq_true rfl, Nat.le_of_ble_eq_true rfl⟩ (fun h' e' => ?_)
  subst e'
  refine mj_if_eq 21 dX6_leaving_5 (by decide) (fun c_5 => ?_) (fun c_5 => ?_)
  · have e5 := bI_0.mp c_5
    refine mj_iload_n 2 dX6_leaving_21 rfl ?_
    exact mj_iret dX6_leaving_22 rfl (Nat.le_of_ble_eq_true rfl) (Nat.le_of_ble_eq_true rfl) ⟨(by simp [r_lv, e5, i_max]), rfl, rfl⟩
  · have e5 := bI_n0.mp c_5
    refine mj_iload_n 2 dX6_leaving_8 rfl ?_
    refine mj_aload_n 0 dX6_leaving_9 rfl ?_
    refine mj_getf dX6_leaving_10 fgX6_21 (by repeat (first | assumption | exact mup_s _ _ _ | rw [mup_n _ _ (by omega)])) rfl ?_
    refine mj_iload_n 1 dX6_leaving_13 rfl ?_
    refine mj_iald (by repeat (first | assumption | exact mup_s _ _ _ | rw [mup_n _ _ (by omega)])) (by first | assumption | rfl | exact ixn (by omega)) (by first | assumption | decide | omega) dX6_leaving_14 ?_
    refine mj_max dX6_leaving_15 mlX6_72 st_max in_Math cd_max (Nat.le_of_ble_eq_true rfl) (Nat.le_of_ble_eq_true rfl) (Nat.le_of_ble_eq_true rfl) (Nat.le_of_ble_eq_true rfl) rfl ?_
    refine mj_goto 22 dX6_leaving_18 (by decide) ?_
    exact mj_iret dX6_leaving_22 rfl (Nat.le_of_ble_eq_true rfl) (Nat.le_of_ble_eq_true rfl) ⟨(by simp [r_lv, e5, i_max]), rfl, rfl⟩
def r_maskTo (R : RS) : Nat → Int32
  | 0 => 0
  | k + 1 => if r_pick R k then r_maskTo R k ||| ((1 : Int32) <<< (rc R k &&& 31)) else r_maskTo R k
def r_mask (R : RS) : Int32 := r_maskTo R (rn R)
def i_ushr (x y : Int32) : Int32 := (x.toUInt32 >>> (y.toUInt32 &&& Int32.toUInt32 31)).toInt32
def i_bit (m r : Int32) : Bool := decide (¬ (i_ushr m r &&& 1) = 0)
set_option maxRecDepth 100000 in
set_option maxHeartbeats 4000000 in
theorem cn_X6_riderMask {K : KX} {n : Nat} {h : MH} {a : Nat} {R : RS} (r : Rt h a R) : Con K mX6_riderMask [.ref a] 0 0 n h (Ret (some (.int (r_mask R))) n h) := by
  obtain ⟨r0, r1, r2, r3, r4, r5⟩ := r
  refine Con.of (by decide +kernel) (Nat.le_of_ble_eq_true rfl) ?_
  have loop : ∀ (f : Nat) (k : Nat) (m : Int32), k + f = rn R → m = r_maskTo R k → GG (K, mX6_riderMask, 0, 0, Ret (some (.int (r_mask R))) n h) 0 0 4 [(2, .int (nI k)), (1, .int m), (0, .ref a)] [] n h := by
    intro f
    induction f with
    | zero =>
      intro k m hk hm
      refine mj_iload_n 0 dX6_riderMask_4 rfl ?_
      refine mj_aload_n 2 dX6_riderMask_5 rfl ?_
      refine mj_getf dX6_riderMask_6 fgX6_32 (by repeat (first | assumption | exact mup_s _ _ _ | rw [mup_n _ _ (by omega)])) rfl ?_
      refine mj_icmp_ge 37 dX6_riderMask_9 (by decide) (fun c_9 => ?_) (fun c_9 => ?_)
      · refine mj_iload_n 1 dX6_riderMask_37 rfl ?_
        exact mj_iret dX6_riderMask_38 rfl (Nat.le_of_ble_eq_true rfl) (Nat.le_of_ble_eq_true rfl) ⟨(by rw [hm, show k = rn R by omega]; rfl), rfl, rfl⟩
      · exact absurd (nI_le (by omega) (by omega)) c_9
    | succ f ih =>
      intro k m hk hm
      refine mj_iload_n 0 dX6_riderMask_4 rfl ?_
      refine mj_aload_n 2 dX6_riderMask_5 rfl ?_
      refine mj_getf dX6_riderMask_6 fgX6_32 (by repeat (first | assumption | exact mup_s _ _ _ | rw [mup_n _ _ (by omega)])) rfl ?_
      refine mj_icmp_ge 37 dX6_riderMask_9 (by decide) (fun c_9 => ?_) (fun c_9 => ?_)
      · exact absurd c_9 (nI_ge (by omega) (by omega))
      · refine mj_aload_n 2 dX6_riderMask_12 rfl ?_
        refine mj_iload_n 0 dX6_riderMask_13 rfl ?_
        refine mj_cV1 [_] (RX6, TX6, 5) dX6_riderMask_14 cwX6_isPickup lkX6_42 (by repeat (first | assumption | exact mup_s _ _ _ | rw [mup_n _ _ (by omega)])) rfl rfl rfl rfl (cn_X6_isPickup ⟨r0, r1, r2, r3, r4, r5⟩ (ixn (by omega)) (by omega)) ⟨Nat.le_of_ble_eq_true rfl, Nat.le_of_ble_eq_true rfl, Nat.le_of_ble_eq_true rfl, Nat.le_of_ble_eq_true rfl, Nat.le_of_ble_eq_true rfl⟩ (fun h' e' => ?_)
        subst e'
        refine mj_if_eq 31 dX6_riderMask_17 (by decide) (fun c_17 => ?_) (fun c_17 => ?_)
        · have e5 := bI_0.mp c_17
          refine mj_iinc (ls' := [(2, _), (1, _), (0, _)]) 0 dX6_riderMask_31 rfl (nI_s _) (Nat.le_of_ble_eq_true rfl) rfl ?_
          refine mj_goto 4 dX6_riderMask_34 (by decide) ?_
          exact mj_ls [0, 1, 2] rfl (ih (k + 1) _ (by omega) (by simp [r_maskTo, e5, hm]))
        · have e5 := bI_n0.mp c_17
          refine mj_iload_n 1 dX6_riderMask_20 rfl ?_
          refine mj_iconst (v := 1) dX6_riderMask_21 rfl ?_
          refine mj_aload_n 2 dX6_riderMask_22 rfl ?_
          refine mj_getf dX6_riderMask_23 fgX6_9 (by repeat (first | assumption | exact mup_s _ _ _ | rw [mup_n _ _ (by omega)])) rfl ?_
          refine mj_iload_n 0 dX6_riderMask_26 rfl ?_
          refine mj_iald (by repeat (first | assumption | exact mup_s _ _ _ | rw [mup_n _ _ (by omega)])) (by first | assumption | rfl | exact ixn (by omega)) (by first | assumption | decide | omega) dX6_riderMask_27 ?_
          refine mj_ishl dX6_riderMask_28 ?_
          refine mj_ior dX6_riderMask_29 ?_
          refine mj_istore_n (ls' := [(1, _), (2, _), (0, _)]) dX6_riderMask_30 (Nat.le_of_ble_eq_true rfl) rfl ?_
          refine mj_iinc (ls' := [(2, _), (1, _), (0, _)]) 1 dX6_riderMask_31 rfl (nI_s _) (Nat.le_of_ble_eq_true rfl) rfl ?_
          refine mj_goto 4 dX6_riderMask_34 (by decide) ?_
          exact mj_ls [0, 1, 2] rfl (ih (k + 1) _ (by omega) (by simp [r_maskTo, e5, hm]))
  refine mj_iconst (v := 0) dX6_riderMask_0 rfl ?_
  refine mj_istore_n (ls' := [(1, _), (0, _)]) dX6_riderMask_1 (Nat.le_of_ble_eq_true rfl) rfl ?_
  refine mj_iconst (v := 0) dX6_riderMask_2 rfl ?_
  refine mj_istore_n (ls' := [(2, _), (1, _), (0, _)]) dX6_riderMask_3 (Nat.le_of_ble_eq_true rfl) rfl ?_
  exact loop (rn R) 0 0 (by omega) rfl
set_option maxRecDepth 100000 in
set_option maxHeartbeats 4000000 in
theorem cn_X6_hasRider {K : KX} {n : Nat} {h : MH} {a : Nat} {R : RS} (r : Rt h a R) {q : Int32} : Con K mX6_hasRider [.ref a, .int q] 0 0 n h (Ret (some (.int (bI (i_bit (r_mask R) q)))) n h) := by
  obtain ⟨r0, r1, r2, r3, r4, r5⟩ := r
  refine Con.of (by decide +kernel) (Nat.le_of_ble_eq_true rfl) ?_
  refine mj_aload_n 0 dX6_hasRider_0 rfl ?_
  refine mj_cV1 [] (RX6, TX6, 5) dX6_hasRider_1 cwX6_riderMask lkX6_46 (by repeat (first | assumption | exact mup_s _ _ _ | rw [mup_n _ _ (by omega)])) rfl rfl rfl rfl (cn_X6_riderMask ⟨r0, r1, r2, r3, r4, r5⟩) ⟨Nat.le_of_ble_eq_true rfl, Nat.le_of_ble_eq_true rfl, Nat.le_of_ble_eq_true rfl, Nat.le_of_ble_eq_true rfl, Nat.le_of_ble_eq_true rfl⟩ (fun h' e' => ?_)
  subst e'
  refine mj_iload_n 1 dX6_hasRider_4 rfl ?_
  refine mj_iushr dX6_hasRider_5 rfl ?_
  refine mj_iconst (v := 1) dX6_hasRider_6 rfl ?_
  refine mj_iand dX6_hasRider_7 ?_
  refine mj_if_eq 15 dX6_hasRider_8 (by decide) (fun c_8 => ?_) (fun c_8 => ?_)
  · refine mj_iconst (v := 0) dX6_hasRider_15 rfl ?_
    exact mj_zret dX6_hasRider_16 rfl (by first | exact Or.inl rfl | exact Or.inr rfl) (Nat.le_of_ble_eq_true rfl) (Nat.le_of_ble_eq_true rfl) ⟨(by simp [bI, i_bit, i_ushr, *]), rfl, rfl⟩
  · refine mj_iconst (v := 1) dX6_hasRider_11 rfl ?_
    refine mj_goto 16 dX6_hasRider_12 (by decide) ?_
    exact mj_zret dX6_hasRider_16 rfl (by first | exact Or.inl rfl | exact Or.inr rfl) (Nat.le_of_ble_eq_true rfl) (Nat.le_of_ble_eq_true rfl) ⟨(by simp [bI, i_bit, i_ushr, *]), rfl, rfl⟩
def r_lwTo (R : RS) (q : Int32) : Nat → Int32 × Nat
  | 0 => (0, 0)
  | k + 1 => if r_of R (k + 1) q then r_lwTo R q k else ((r_lwTo R q k).1 + r_step R (r_lwTo R q k).2 (k + 1), k + 1)
theorem r_lwTo_le (R : RS) (q : Int32) : ∀ k, (r_lwTo R q k).2 ≤ k
  | 0 => Nat.le_refl 0
  | k + 1 => by
    have := r_lwTo_le R q k
    simp only [r_lwTo]
    split
    · omega
    · exact Nat.le_refl _
def r_lw (R : RS) (q : Int32) : Int32 := (r_lwTo R q (rn R - 1)).1
set_option maxRecDepth 100000 in
set_option maxHeartbeats 4000000 in
theorem cn_X6_lengthWithout {K : KX} {n : Nat} {h : MH} {a : Nat} {R : RS} (r : Rt h a R) {q : Int32} (h2 : 1 ≤ rn R) : Con K mX6_lengthWithout [.ref a, .int q] 0 0 n h (Ret (some (.int (r_lw R q))) n h) := by
  obtain ⟨r0, r1, r2, r3, r4, r5⟩ := r
  refine Con.of (by decide +kernel) (Nat.le_of_ble_eq_true rfl) ?_
  have loop : ∀ (f : Nat) (k l : Nat) (m : Int32), k + f + 1 = rn R → (m, l) = r_lwTo R q k → l ≤ k → GG (K, mX6_lengthWithout, 0, 0, Ret (some (.int (r_lw R q))) n h) 0 0 7 [(4, .int (nI (k + 1))), (3, .int (nI l)), (2, .int m), (0, .ref a), (1, .int q)] [] n h := by
    intro f
    induction f with
    | zero =>
      intro k l m hk hm hl
      refine mj_iload 0 dX6_lengthWithout_7 rfl ?_
      refine mj_aload_n 3 dX6_lengthWithout_9 rfl ?_
      refine mj_getf dX6_lengthWithout_10 fgX6_32 (by repeat (first | assumption | exact mup_s _ _ _ | rw [mup_n _ _ (by omega)])) rfl ?_
      refine mj_icmp_ge 45 dX6_lengthWithout_13 (by decide) (fun c_13 => ?_) (fun c_13 => ?_)
      · refine mj_iload_n 2 dX6_lengthWithout_45 rfl ?_
        exact mj_iret dX6_lengthWithout_46 rfl (Nat.le_of_ble_eq_true rfl) (Nat.le_of_ble_eq_true rfl) ⟨(by rw [r_lw, show rn R - 1 = k by omega, ← hm]), rfl, rfl⟩
      · exact absurd (nI_le (by omega) (by omega)) c_13
    | succ f ih =>
      intro k l m hk hm hl
      refine mj_iload 0 dX6_lengthWithout_7 rfl ?_
      refine mj_aload_n 3 dX6_lengthWithout_9 rfl ?_
      refine mj_getf dX6_lengthWithout_10 fgX6_32 (by repeat (first | assumption | exact mup_s _ _ _ | rw [mup_n _ _ (by omega)])) rfl ?_
      refine mj_icmp_ge 45 dX6_lengthWithout_13 (by decide) (fun c_13 => ?_) (fun c_13 => ?_)
      · exact absurd c_13 (nI_ge (by omega) (by omega))
      · refine mj_aload_n 3 dX6_lengthWithout_16 rfl ?_
        refine mj_iload 0 dX6_lengthWithout_17 rfl ?_
        refine mj_iload_n 4 dX6_lengthWithout_19 rfl ?_
        refine mj_cV1 [_, _] (RX6, TX6, 5) dX6_lengthWithout_20 cwX6_isOf lkX6_58 (by repeat (first | assumption | exact mup_s _ _ _ | rw [mup_n _ _ (by omega)])) rfl rfl rfl rfl (cn_X6_isOf ⟨r0, r1, r2, r3, r4, r5⟩ (ixn (by omega)) (by omega)) ⟨Nat.le_of_ble_eq_true rfl, Nat.le_of_ble_eq_true rfl, Nat.le_of_ble_eq_true rfl, Nat.le_of_ble_eq_true rfl, Nat.le_of_ble_eq_true rfl⟩ (fun h' e' => ?_)
        subst e'
        refine mj_if_ne 39 dX6_lengthWithout_23 (by decide) (fun c_23 => ?_) (fun c_23 => ?_)
        · have e5 := bI_n0.mp c_23
          refine mj_iinc (ls' := [(4, _), (3, _), (2, _), (0, _), (1, _)]) 0 dX6_lengthWithout_39 rfl (nI_s _) (Nat.le_of_ble_eq_true rfl) rfl ?_
          refine mj_goto 7 dX6_lengthWithout_42 (by decide) ?_
          first
            | exact mj_ls [0, 1, 2, 3, 4] rfl (ih (k + 1) l _ (by omega) (by simp [r_lwTo, e5, ← hm]) (by omega))
            | exact mj_ls [0, 1, 2, 3, 4] rfl (ih (k + 1) (k + 1) _ (by omega) (by simp [r_lwTo, e5, ← hm]) (by omega))
        · have e5 := bI_0.mp c_23
          refine mj_iload_n 2 dX6_lengthWithout_26 rfl ?_
          refine mj_aload_n 3 dX6_lengthWithout_27 rfl ?_
          refine mj_iload_n 1 dX6_lengthWithout_28 rfl ?_
          refine mj_iload 0 dX6_lengthWithout_29 rfl ?_
          refine mj_cV1 [_, _] (RX6, TX6, 5) dX6_lengthWithout_31 cwX6_step lkX6_54 (by repeat (first | assumption | exact mup_s _ _ _ | rw [mup_n _ _ (by omega)])) rfl rfl rfl rfl (cn_X6_step ⟨r0, r1, r2, r3, r4, r5⟩ (ixn (by omega)) (by omega) (ixn (by omega)) (by omega)) ⟨Nat.le_of_ble_eq_true rfl, Nat.le_of_ble_eq_true rfl, Nat.le_of_ble_eq_true rfl, Nat.le_of_ble_eq_true rfl, Nat.le_of_ble_eq_true rfl⟩ (fun h' e' => ?_)
          subst e'
          refine mj_iadd dX6_lengthWithout_34 ?_
          refine mj_istore_n (ls' := [(2, _), (4, _), (3, _), (0, _), (1, _)]) dX6_lengthWithout_35 (Nat.le_of_ble_eq_true rfl) rfl ?_
          refine mj_iload 1 dX6_lengthWithout_36 rfl ?_
          refine mj_istore_n (ls' := [(3, _), (2, _), (4, _), (0, _), (1, _)]) dX6_lengthWithout_38 (Nat.le_of_ble_eq_true rfl) rfl ?_
          refine mj_iinc (ls' := [(4, _), (3, _), (2, _), (0, _), (1, _)]) 2 dX6_lengthWithout_39 rfl (nI_s _) (Nat.le_of_ble_eq_true rfl) rfl ?_
          refine mj_goto 7 dX6_lengthWithout_42 (by decide) ?_
          first
            | exact mj_ls [0, 1, 2, 3, 4] rfl (ih (k + 1) l _ (by omega) (by simp [r_lwTo, e5, ← hm]) (by omega))
            | exact mj_ls [0, 1, 2, 3, 4] rfl (ih (k + 1) (k + 1) _ (by omega) (by simp [r_lwTo, e5, ← hm]) (by omega))
  refine mj_iconst (v := 0) dX6_lengthWithout_0 rfl ?_
  refine mj_istore_n (ls' := [(2, _), (0, _), (1, _)]) dX6_lengthWithout_1 (Nat.le_of_ble_eq_true rfl) rfl ?_
  refine mj_iconst (v := 0) dX6_lengthWithout_2 rfl ?_
  refine mj_istore_n (ls' := [(3, _), (2, _), (0, _), (1, _)]) dX6_lengthWithout_3 (Nat.le_of_ble_eq_true rfl) rfl ?_
  refine mj_iconst (v := 1) dX6_lengthWithout_4 rfl ?_
  refine mj_istore (ls' := [(4, _), (3, _), (2, _), (0, _), (1, _)]) dX6_lengthWithout_5 (Nat.le_of_ble_eq_true rfl) rfl ?_
  exact mj_ls [0, 1, 2, 3, 4] rfl (loop (rn R - 1) 0 0 0 (by omega) rfl (by omega))
