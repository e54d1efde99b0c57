-- BOARD: 71 cells from a on
abbrev BS : Type := Nat × Nat × Int32 × (Nat → DS) × (Nat → RS) × (Nat → RdS)
abbrev bnd (B : BS) : Nat := B.1
abbrev bnr (B : BS) : Nat := B.2.1
abbrev bpe (B : BS) : Int32 := B.2.2.1
abbrev bD (B : BS) : Nat → DS := B.2.2.2.1
abbrev bT (B : BS) : Nat → RS := B.2.2.2.2.1
abbrev bX (B : BS) : Nat → RdS := B.2.2.2.2.2
def bdC (a nd nr : Nat) (pe : Int32) : MC := cO 0 [.ref (a + 1), .ref (a + 2), .int (nI nd), .int (nI nr), .int pe]
def Bd (h : MH) (a : Nat) (B : BS) : Prop := h a = some (bdC a (bnd B) (bnr B) (bpe B)) ∧ (∃ f, h (a + 1) = some (cQ 4 8 f) ∧ ∀ d, d < 8 → f d = some (a + 3 + 6 * d)) ∧ (∃ f, h (a + 2) = some (cQ 5 20 f) ∧ ∀ r, r < 20 → f r = some (a + 51 + r)) ∧
  (∀ d, d < 8 → Dr h (a + 3 + 6 * d) (nI d) (bD B d) (bT B d)) ∧ (∀ r, r < 20 → h (a + 51 + r) = some (rdC (nI r) (bX B r))) ∧ bnd B ≤ 8 ∧ bnr B ≤ 20
theorem Dr.off {h h' : MH} {a c d : Nat} {num : Int32} {D : DS} {T : RS} (x : Dr h a num D T) (o : Off c d h h') (e : a + 6 ≤ c ∨ d ≤ a) : Dr h' a num D T := ⟨o.at x.1 (by omega), x.2.off o (by omega)⟩
theorem Bd.off {h h' : MH} {a c d : Nat} {B : BS} (x : Bd h a B) (o : Off c d h h') (e : a + 71 ≤ c ∨ d ≤ a) : Bd h' a B := by
  obtain ⟨b0, ⟨f, b1, f1⟩, ⟨g, b2, g2⟩, b3, b4, b5⟩ := x
  exact ⟨o.at b0 (by omega), ⟨f, o.at b1 (by omega), f1⟩, ⟨g, o.at b2 (by omega), g2⟩, fun d hd => (b3 d hd).off o (by omega), fun r hr => o.at (b4 r hr) (by omega), b5⟩
def b_setX (B : BS) (r : Nat) (Y : RdS) : BS := (bnd B, bnr B, bpe B, bD B, bT B, vf_upd (bX B) r Y)
def b_setD (B : BS) (d : Nat) (Y : DS) : BS := (bnd B, bnr B, bpe B, vf_upd (bD B) d Y, bT B, bX B)
def b_setT (B : BS) (d : Nat) (Y : RS) : BS := (bnd B, bnr B, bpe B, bD B, vf_upd (bT B) d Y, bX B)
def b_head (B : BS) (nd nr : Nat) (pe : Int32) : BS := (nd, nr, pe, bD B, bT B, bX B)
theorem vf_s {α : Type} (f : Nat → α) (k : Nat) (x : α) : vf_upd f k x k = x := if_pos rfl
theorem vf_n {α : Type} (f : Nat → α) {k j : Nat} (x : α) (e : j ≠ k) : vf_upd f k x j = f j := if_neg e
/-- a rider's cell is another -/
theorem Bd.setX {h h' : MH} {a r : Nat} {B : BS} {Y : RdS} (x : Bd h a B) (hr : r < 20) (e : h' (a + 51 + r) = some (rdC (nI r) Y)) (o : Off (a + 51 + r) (a + 52 + r) h h') : Bd h' a (b_setX B r Y) := by
  obtain ⟨b0, ⟨f, b1, f1⟩, ⟨g, b2, g2⟩, b3, b4, b5⟩ := x
  refine ⟨o.at b0 (by omega), ⟨f, o.at b1 (by omega), f1⟩, ⟨g, o.at b2 (by omega), g2⟩, fun d hd => (b3 d hd).off o (by omega), fun s hs => ?_, b5⟩
  by_cases q : s = r
  · subst q
    show _ = some (rdC (nI s) (vf_upd (bX B) s Y s))
    rw [vf_s]
    exact e
  · show _ = some (rdC (nI s) (vf_upd (bX B) r Y s))
    rw [vf_n _ _ q]
    exact o.at (b4 s hs) (by omega)
/-- a driver with its route is another -/
theorem Bd.setDT {h h' : MH} {a d : Nat} {B : BS} {D : DS} {T : RS} (x : Bd h a B) (hd : d < 8) (e : Dr h' (a + 3 + 6 * d) (nI d) D T) (o : Off (a + 3 + 6 * d) (a + 9 + 6 * d) h h') : Bd h' a (b_setT (b_setD B d D) d T) := by
  obtain ⟨b0, ⟨f, b1, f1⟩, ⟨g, b2, g2⟩, b3, b4, b5⟩ := x
  refine ⟨o.at b0 (by omega), ⟨f, o.at b1 (by omega), f1⟩, ⟨g, o.at b2 (by omega), g2⟩, fun s hs => ?_, fun s hs => o.at (b4 s hs) (by omega), b5⟩
  by_cases q : s = d
  · subst q
    show Dr h' _ _ (vf_upd (bD B) s D s) (vf_upd (bT B) s T s)
    rw [vf_s, vf_s]
    exact e
  · show Dr h' _ _ (vf_upd (bD B) d D s) (vf_upd (bT B) d T s)
    rw [vf_n _ _ q, vf_n _ _ q]
    exact (b3 s hs).off o (by omega)
theorem vf_id {α : Type} (f : Nat → α) (k : Nat) : vf_upd f k (f k) = f := by
  funext j
  by_cases e : j = k
  · rw [e, vf_s]
  · rw [vf_n _ _ e]
theorem Bd.setT {h h' : MH} {a d : Nat} {B : BS} {T : RS} (x : Bd h a B) (hd : d < 8) (e : Rt h' (a + 4 + 6 * d) T) (o : Off (a + 4 + 6 * d) (a + 9 + 6 * d) h h') : Bd h' a (b_setT B d T) := by
  have h1 := x.setDT (h' := h') (D := bD B d) (T := T) hd ⟨o.at (x.2.2.2.1 d hd).1 (by omega), by rw [show a + 3 + 6 * d + 1 = a + 4 + 6 * d by omega]; exact e⟩ (o.up (by omega) (by omega))
  have h2 : b_setT (b_setD B d (bD B d)) d T = b_setT B d T := by unfold b_setT b_setD bD; dsimp only; rw [vf_id]
  rw [← h2]
  exact h1
theorem Bd.setD {h h' : MH} {a d : Nat} {B : BS} {D : DS} (x : Bd h a B) (hd : d < 8) (e : h' (a + 3 + 6 * d) = some (drC (nI d) (a + 3 + 6 * d) D)) (o : Off (a + 3 + 6 * d) (a + 4 + 6 * d) h h') : Bd h' a (b_setD B d D) := by
  have h1 := x.setDT (h' := h') (D := D) (T := bT B d) hd ⟨e, (x.2.2.2.1 d hd).2.off o (by omega)⟩ (o.up (by omega) (by omega))
  have h2 : b_setT (b_setD B d D) d (bT B d) = b_setD B d D := by unfold b_setT b_setD bT; dsimp only; rw [vf_id]
  rw [← h2]
  exact h1
theorem Bd.head {h h' : MH} {a nd nr : Nat} {pe : Int32} {B : BS} (x : Bd h a B) (e : h' a = some (bdC a nd nr pe)) (o : Off a (a + 1) h h') (h1 : nd ≤ 8) (h2 : nr ≤ 20) : Bd h' a (b_head B nd nr pe) := by
  obtain ⟨b0, ⟨f, b1, f1⟩, ⟨g, b2, g2⟩, b3, b4, b5⟩ := x
  exact ⟨e, ⟨f, o.at b1 (by omega), f1⟩, ⟨g, o.at b2 (by omega), g2⟩, fun d hd => (b3 d hd).off o (by omega), fun r hr => o.at (b4 r hr) (by omega), h1, h2⟩
theorem bin_ix {i : Int32} {m : Nat} (hm : m ≤ 20) : b_in i 0 (nI m - 1) = true ↔ ∃ j : Nat, j < m ∧ i = nI j := by
  have e1 : (nI m - 1).toInt = (m : Int) - 1 := pk_sub_toInt (a := m) (b := 1) (by omega) (by omega)
  have e0 : (0 : Int32).toInt = 0 := rfl
  constructor
  · intro h
    simp only [b_in, Bool.and_eq_true, decide_eq_true_eq, Int32.le_iff_toInt_le] at h
    refine ⟨i.toInt.toNat, by omega, ?_⟩
    apply Int32.toInt_inj.mp
    rw [ixn (by omega)]
    omega
  · rintro ⟨j, hj, rfl⟩
    have e2 := ixn (j := j) (by omega)
    simp only [b_in, Bool.and_eq_true, decide_eq_true_eq, Int32.le_iff_toInt_le]
    omega
theorem bin_no {i : Int32} {m : Nat} (hm : m ≤ 20) (h : ∀ j, j < m → i ≠ nI j) : b_in i 0 (nI m - 1) = false := by
  cases e : b_in i 0 (nI m - 1) with
  | false => rfl
  | true =>
    obtain ⟨j, h1, h2⟩ := (bin_ix hm).mp e
    exact absurd h2 (h j h1)
def OBd : Unit := ()
set_option maxRecDepth 100000 in
set_option maxHeartbeats 4000000 in
theorem cn_X0_driver {K : KX} {n : Nat} {h : MH} {a : Nat} {B : BS} (b : Bd h a B) {i : Int32} {j : Nat} (hi : i = nI j) (hj : j < bnd B) : Con K mX0_driver [.ref a, .int i] 0 0 n h (Ret (some (.ref (a + 3 + 6 * j))) n h) := by
  have b9 := b
  obtain ⟨b0, ⟨f1, b1, e1⟩, ⟨f2, b2, e2⟩, b3, b4, b5, b6⟩ := b
  have hj0 : i.toInt = (j : Int) := by rw [hi]; exact ixn (by omega)
  refine Con.of (by decide +kernel) (Nat.le_of_ble_eq_true rfl) ?_
  refine mj_iload_n 1 dX0_driver_0 rfl ?_
  refine mj_iconst (v := 0) dX0_driver_1 rfl ?_
  refine mj_aload_n 0 dX0_driver_2 rfl ?_
  refine mj_getf dX0_driver_3 fgX0_31 (by repeat (first | assumption | exact mup_s _ _ _ | rw [mup_n _ _ (by omega)])) rfl ?_
  refine mj_iconst (v := 1) dX0_driver_6 rfl ?_
  refine mj_isub dX0_driver_7 ?_
  refine mj_cS1 [_, _, _] dX0_driver_8 cwX10_isWithin lkX0_52 rfl (cn_X10_isWithin _ _ _) ⟨Nat.le_of_ble_eq_true rfl, Nat.le_of_ble_eq_true rfl, Nat.le_of_ble_eq_true rfl, Nat.le_of_ble_eq_true rfl, Nat.le_of_ble_eq_true rfl⟩ (fun h' e' => ?_)
  subst e'
  refine mj_if_ne 24 dX0_driver_11 (by decide) (fun c_11 => ?_) (fun c_11 => ?_)
  · refine mj_aload_n 0 dX0_driver_24 rfl ?_
    refine mj_getf dX0_driver_25 fgX0_11 (by repeat (first | assumption | exact mup_s _ _ _ | rw [mup_n _ _ (by omega)])) rfl ?_
    refine mj_iload_n 1 dX0_driver_28 rfl ?_
    refine mj_aaldD (by repeat (first | assumption | exact mup_s _ _ _ | rw [mup_n _ _ (by omega)])) hj0 (by omega) dX0_driver_29 ?_
    rw [e1 j (by omega)]
    exact mj_aret dX0_driver_30 rfl (Or.inr ⟨_, rfl⟩) (Nat.le_of_ble_eq_true rfl) (Nat.le_of_ble_eq_true rfl) ⟨rfl, rfl, rfl⟩
  · exact absurd ((bI_0.mp c_11).symm.trans ((bin_ix (by omega)).mpr ⟨j, hj, hi⟩)) (by decide)
set_option maxRecDepth 100000 in
set_option maxHeartbeats 4000000 in
theorem cn_X0_driver_no {K : KX} {n : Nat} {h : MH} {a : Nat} {B : BS} (b : Bd h a B) {i : Int32} (hi : b_in i 0 (nI (bnd B) - 1) = false) : Con K mX0_driver [.ref a, .int i] 1 6 n h (Thr "java/lang/IndexOutOfBoundsException" n h) := by
  have b9 := b
  obtain ⟨b0, ⟨f1, b1, e1⟩, ⟨f2, b2, e2⟩, b3, b4, b5, b6⟩ := b
  refine Con.of (by decide +kernel) (Nat.le_of_ble_eq_true rfl) ?_
  refine mj_iload_n 1 dX0_driver_0 rfl ?_
  refine mj_iconst (v := 0) dX0_driver_1 rfl ?_
  refine mj_aload_n 0 dX0_driver_2 rfl ?_
  refine mj_getf dX0_driver_3 fgX0_31 (by repeat (first | assumption | exact mup_s _ _ _ | rw [mup_n _ _ (by omega)])) rfl ?_
  refine mj_iconst (v := 1) dX0_driver_6 rfl ?_
  refine mj_isub dX0_driver_7 ?_
  refine mj_cS1 [_, _, _] dX0_driver_8 cwX10_isWithin lkX0_52 rfl (cn_X10_isWithin _ _ _) ⟨Nat.le_of_ble_eq_true rfl, Nat.le_of_ble_eq_true rfl, Nat.le_of_ble_eq_true rfl, Nat.le_of_ble_eq_true rfl, Nat.le_of_ble_eq_true rfl⟩ (fun h' e' => ?_)
  subst e'
  refine mj_if_ne 24 dX0_driver_11 (by decide) (fun c_11 => ?_) (fun c_11 => ?_)
  · exact absurd (hi.symm.trans (bI_n0.mp c_11)) (by decide)
  · exact mj_throwS (text := "there is no such driver") dX0_driver_14 dX0_driver_17 dX0_driver_18 dX0_driver_20 dX0_driver_23 thX0_56_60 (show (("Carpool$Board", 58, "there is no such driver") : String × Nat × String) ∈ strK by decide +kernel) rfl (Nat.le_of_ble_eq_true rfl) (Nat.le_of_ble_eq_true rfl) (Nat.le_of_ble_eq_true rfl) (Nat.le_of_ble_eq_true rfl) (fun n9 h9 => ⟨rfl, h9, rfl⟩)
set_option maxRecDepth 100000 in
set_option maxHeartbeats 4000000 in
theorem cn_X0_rider {K : KX} {n : Nat} {h : MH} {a : Nat} {B : BS} (b : Bd h a B) {i : Int32} {j : Nat} (hi : i = nI j) (hj : j < bnr B) : Con K mX0_rider [.ref a, .int i] 0 0 n h (Ret (some (.ref (a + 51 + j))) n h) := by
  have b9 := b
  obtain ⟨b0, ⟨f1, b1, e1⟩, ⟨f2, b2, e2⟩, b3, b4, b5, b6⟩ := b
  have hj0 : i.toInt = (j : Int) := by rw [hi]; exact ixn (by omega)
  refine Con.of (by decide +kernel) (Nat.le_of_ble_eq_true rfl) ?_
  refine mj_iload_n 1 dX0_rider_0 rfl ?_
  refine mj_iconst (v := 0) dX0_rider_1 rfl ?_
  refine mj_aload_n 0 dX0_rider_2 rfl ?_
  refine mj_getf dX0_rider_3 fgX0_34 (by repeat (first | assumption | exact mup_s _ _ _ | rw [mup_n _ _ (by omega)])) rfl ?_
  refine mj_iconst (v := 1) dX0_rider_6 rfl ?_
  refine mj_isub dX0_rider_7 ?_
  refine mj_cS1 [_, _, _] dX0_rider_8 cwX10_isWithin lkX0_52 rfl (cn_X10_isWithin _ _ _) ⟨Nat.le_of_ble_eq_true rfl, Nat.le_of_ble_eq_true rfl, Nat.le_of_ble_eq_true rfl, Nat.le_of_ble_eq_true rfl, Nat.le_of_ble_eq_true rfl⟩ (fun h' e' => ?_)
  subst e'
  refine mj_if_ne 24 dX0_rider_11 (by decide) (fun c_11 => ?_) (fun c_11 => ?_)
  · refine mj_aload_n 0 dX0_rider_24 rfl ?_
    refine mj_getf dX0_rider_25 fgX0_19 (by repeat (first | assumption | exact mup_s _ _ _ | rw [mup_n _ _ (by omega)])) rfl ?_
    refine mj_iload_n 1 dX0_rider_28 rfl ?_
    refine mj_aaldR (by repeat (first | assumption | exact mup_s _ _ _ | rw [mup_n _ _ (by omega)])) hj0 (by omega) dX0_rider_29 ?_
    rw [e2 j (by omega)]
    exact mj_aret dX0_rider_30 rfl (Or.inr ⟨_, rfl⟩) (Nat.le_of_ble_eq_true rfl) (Nat.le_of_ble_eq_true rfl) ⟨rfl, rfl, rfl⟩
  · exact absurd ((bI_0.mp c_11).symm.trans ((bin_ix (by omega)).mpr ⟨j, hj, hi⟩)) (by decide)
set_option maxRecDepth 100000 in
set_option maxHeartbeats 4000000 in
theorem cn_X0_rider_no {K : KX} {n : Nat} {h : MH} {a : Nat} {B : BS} (b : Bd h a B) {i : Int32} (hi : b_in i 0 (nI (bnr B) - 1) = false) : Con K mX0_rider [.ref a, .int i] 1 6 n h (Thr "java/lang/IndexOutOfBoundsException" n h) := by
  have b9 := b
  obtain ⟨b0, ⟨f1, b1, e1⟩, ⟨f2, b2, e2⟩, b3, b4, b5, b6⟩ := b
  refine Con.of (by decide +kernel) (Nat.le_of_ble_eq_true rfl) ?_
  refine mj_iload_n 1 dX0_rider_0 rfl ?_
  refine mj_iconst (v := 0) dX0_rider_1 rfl ?_
  refine mj_aload_n 0 dX0_rider_2 rfl ?_
  refine mj_getf dX0_rider_3 fgX0_34 (by repeat (first | assumption | exact mup_s _ _ _ | rw [mup_n _ _ (by omega)])) rfl ?_
  refine mj_iconst (v := 1) dX0_rider_6 rfl ?_
  refine mj_isub dX0_rider_7 ?_
  refine mj_cS1 [_, _, _] dX0_rider_8 cwX10_isWithin lkX0_52 rfl (cn_X10_isWithin _ _ _) ⟨Nat.le_of_ble_eq_true rfl, Nat.le_of_ble_eq_true rfl, Nat.le_of_ble_eq_true rfl, Nat.le_of_ble_eq_true rfl, Nat.le_of_ble_eq_true rfl⟩ (fun h' e' => ?_)
  subst e'
  refine mj_if_ne 24 dX0_rider_11 (by decide) (fun c_11 => ?_) (fun c_11 => ?_)
  · exact absurd (hi.symm.trans (bI_n0.mp c_11)) (by decide)
  · exact mj_throwS (text := "there is no such rider") dX0_rider_14 dX0_rider_17 dX0_rider_18 dX0_rider_20 dX0_rider_23 thX0_56_60 (show (("Carpool$Board", 63, "there is no such rider") : String × Nat × String) ∈ strK by decide +kernel) rfl (Nat.le_of_ble_eq_true rfl) (Nat.le_of_ble_eq_true rfl) (Nat.le_of_ble_eq_true rfl) (Nat.le_of_ble_eq_true rfl) (fun n9 h9 => ⟨rfl, h9, rfl⟩)
set_option maxRecDepth 100000 in
set_option maxHeartbeats 4000000 in
theorem cn_X0_hasAllDrivers {K : KX} {n : Nat} {h : MH} {a : Nat} {B : BS} (b : Bd h a B) : Con K mX0_hasAllDrivers [.ref a] 0 0 n h (Ret (some (.int (bI (decide (8 ≤ bnd B))))) n h) := by
  have b9 := b
  obtain ⟨b0, ⟨f1, b1, e1⟩, ⟨f2, b2, e2⟩, b3, b4, b5, b6⟩ := b
  refine Con.of (by decide +kernel) (Nat.le_of_ble_eq_true rfl) ?_
  refine mj_aload_n 0 dX0_hasAllDrivers_0 rfl ?_
  refine mj_getf dX0_hasAllDrivers_1 fgX0_31 (by repeat (first | assumption | exact mup_s _ _ _ | rw [mup_n _ _ (by omega)])) rfl ?_
  refine mj_bipush (v := (8)) dX0_hasAllDrivers_4 rfl ?_
  refine mj_icmp_lt 13 dX0_hasAllDrivers_6 (by decide) (fun c_6 => ?_) (fun c_6 => ?_)
  · have z : bnd B < 8 := (nI_ltI (a := bnd B) (b := 8) (by omega) (by omega)).mp c_6
    refine mj_iconst (v := 0) dX0_hasAllDrivers_13 rfl ?_
    exact mj_zret dX0_hasAllDrivers_14 rfl (by first | exact Or.inl rfl | exact Or.inr rfl) (Nat.le_of_ble_eq_true rfl) (Nat.le_of_ble_eq_true rfl) ⟨(by first | (rw [decide_eq_true (by omega)]; rfl) | (rw [decide_eq_false (by omega)]; rfl)), rfl, rfl⟩
  · have z : ¬ bnd B < 8 := fun z => c_6 ((nI_ltI (a := bnd B) (b := 8) (by omega) (by omega)).mpr z)
    refine mj_iconst (v := 1) dX0_hasAllDrivers_9 rfl ?_
    refine mj_goto 14 dX0_hasAllDrivers_10 (by decide) ?_
    exact mj_zret dX0_hasAllDrivers_14 rfl (by first | exact Or.inl rfl | exact Or.inr rfl) (Nat.le_of_ble_eq_true rfl) (Nat.le_of_ble_eq_true rfl) ⟨(by first | (rw [decide_eq_true (by omega)]; rfl) | (rw [decide_eq_false (by omega)]; rfl)), rfl, rfl⟩
set_option maxRecDepth 100000 in
set_option maxHeartbeats 4000000 in
theorem cn_X0_hasAllRiders {K : KX} {n : Nat} {h : MH} {a : Nat} {B : BS} (b : Bd h a B) : Con K mX0_hasAllRiders [.ref a] 0 0 n h (Ret (some (.int (bI (decide (20 ≤ bnr B))))) n h) := by
  have b9 := b
  obtain ⟨b0, ⟨f1, b1, e1⟩, ⟨f2, b2, e2⟩, b3, b4, b5, b6⟩ := b
  refine Con.of (by decide +kernel) (Nat.le_of_ble_eq_true rfl) ?_
  refine mj_aload_n 0 dX0_hasAllRiders_0 rfl ?_
  refine mj_getf dX0_hasAllRiders_1 fgX0_34 (by repeat (first | assumption | exact mup_s _ _ _ | rw [mup_n _ _ (by omega)])) rfl ?_
  refine mj_bipush (v := (20)) dX0_hasAllRiders_4 rfl ?_
  refine mj_icmp_lt 13 dX0_hasAllRiders_6 (by decide) (fun c_6 => ?_) (fun c_6 => ?_)
  · have z : bnr B < 20 := (nI_ltI (a := bnr B) (b := 20) (by omega) (by omega)).mp c_6
    refine mj_iconst (v := 0) dX0_hasAllRiders_13 rfl ?_
    exact mj_zret dX0_hasAllRiders_14 rfl (by first | exact Or.inl rfl | exact Or.inr rfl) (Nat.le_of_ble_eq_true rfl) (Nat.le_of_ble_eq_true rfl) ⟨(by first | (rw [decide_eq_true (by omega)]; rfl) | (rw [decide_eq_false (by omega)]; rfl)), rfl, rfl⟩
  · have z : ¬ bnr B < 20 := fun z => c_6 ((nI_ltI (a := bnr B) (b := 20) (by omega) (by omega)).mpr z)
    refine mj_iconst (v := 1) dX0_hasAllRiders_9 rfl ?_
    refine mj_goto 14 dX0_hasAllRiders_10 (by decide) ?_
    exact mj_zret dX0_hasAllRiders_14 rfl (by first | exact Or.inl rfl | exact Or.inr rfl) (Nat.le_of_ble_eq_true rfl) (Nat.le_of_ble_eq_true rfl) ⟨(by first | (rw [decide_eq_true (by omega)]; rfl) | (rw [decide_eq_false (by omega)]; rfl)), rfl, rfl⟩
set_option maxRecDepth 100000 in
set_option maxHeartbeats 4000000 in
theorem cn_X0_nextDriver {K : KX} {n : Nat} {h : MH} {a : Nat} {B : BS} (b : Bd h a B) (hb : bnd B < 8) : Con K mX0_nextDriver [.ref a] 0 0 n h (RetP (some (.ref (a + 3 + 6 * bnd B))) n (fun h' => Bd h' a (b_head B (bnd B + 1) (bnr B) (bpe B)) ∧ Off a (a + 1) h h')) := by
  have b9 := b
  obtain ⟨b0, ⟨f1, b1, e1⟩, ⟨f2, b2, e2⟩, b3, b4, b5, b6⟩ := b
  refine Con.of (by decide +kernel) (Nat.le_of_ble_eq_true rfl) ?_
  refine mj_aload_n 0 dX0_nextDriver_0 rfl ?_
  refine mj_dup dX0_nextDriver_1 rfl ?_
  refine mj_getf dX0_nextDriver_2 fgX0_31 (by repeat (first | assumption | exact mup_s _ _ _ | rw [mup_n _ _ (by omega)])) rfl ?_
  refine mj_iconst (v := 1) dX0_nextDriver_5 rfl ?_
  refine mj_iadd dX0_nextDriver_6 ?_
  refine mj_eq (nI_1 _) ?_
  refine mj_putf dX0_nextDriver_7 fgX0_31 (by repeat (first | assumption | exact mup_s _ _ _ | rw [mup_n _ _ (by omega)])) rfl rfl rfl (Nat.le_of_ble_eq_true rfl) rfl ?_
  have q := b9.head (h' := mup h a (bdC a (bnd B + 1) (bnr B) (bpe B))) (mup_s _ _ _) (Off.m0 _ (by omega) (by omega)) (by omega) b6
  refine mj_aload_n 0 dX0_nextDriver_10 rfl ?_
  refine mj_aload_n 0 dX0_nextDriver_11 rfl ?_
  refine mj_getf dX0_nextDriver_12 fgX0_31 (by repeat (first | assumption | exact mup_s _ _ _ | rw [mup_n _ _ (by omega)])) rfl ?_
  refine mj_iconst (v := 1) dX0_nextDriver_15 rfl ?_
  refine mj_isub dX0_nextDriver_16 ?_
  refine mj_eq (nI_p _) ?_
  refine mj_cV1 [_] (RX0, TX0, 5) dX0_nextDriver_17 cwX0_driver lkX0_37 (by repeat (first | assumption | exact mup_s _ _ _ | rw [mup_n _ _ (by omega)])) rfl rfl rfl rfl (cn_X0_driver q (j := bnd B) rfl (by show bnd B < bnd B + 1; omega)) ⟨Nat.le_of_ble_eq_true rfl, Nat.le_of_ble_eq_true rfl, Nat.le_of_ble_eq_true rfl, Nat.le_of_ble_eq_true rfl, Nat.le_of_ble_eq_true rfl⟩ (fun h' e' => ?_)
  subst e'
  exact mj_aret dX0_nextDriver_20 rfl (Or.inr ⟨_, rfl⟩) (Nat.le_of_ble_eq_true rfl) (Nat.le_of_ble_eq_true rfl) ⟨rfl, rfl, ⟨q, Off.m0 _ (by omega) (by omega)⟩⟩
set_option maxRecDepth 100000 in
set_option maxHeartbeats 4000000 in
theorem cn_X0_nextRider {K : KX} {n : Nat} {h : MH} {a : Nat} {B : BS} (b : Bd h a B) (hb : bnr B < 20) : Con K mX0_nextRider [.ref a] 0 0 n h (RetP (some (.ref (a + 51 + bnr B))) n (fun h' => Bd h' a (b_head B (bnd B) (bnr B + 1) (bpe B)) ∧ Off a (a + 1) h h')) := by
  have b9 := b
  obtain ⟨b0, ⟨f1, b1, e1⟩, ⟨f2, b2, e2⟩, b3, b4, b5, b6⟩ := b
  refine Con.of (by decide +kernel) (Nat.le_of_ble_eq_true rfl) ?_
  refine mj_aload_n 0 dX0_nextRider_0 rfl ?_
  refine mj_dup dX0_nextRider_1 rfl ?_
  refine mj_getf dX0_nextRider_2 fgX0_34 (by repeat (first | assumption | exact mup_s _ _ _ | rw [mup_n _ _ (by omega)])) rfl ?_
  refine mj_iconst (v := 1) dX0_nextRider_5 rfl ?_
  refine mj_iadd dX0_nextRider_6 ?_
  refine mj_eq (nI_1 _) ?_
  refine mj_putf dX0_nextRider_7 fgX0_34 (by repeat (first | assumption | exact mup_s _ _ _ | rw [mup_n _ _ (by omega)])) rfl rfl rfl (Nat.le_of_ble_eq_true rfl) rfl ?_
  have q := b9.head (h' := mup h a (bdC a (bnd B) (bnr B + 1) (bpe B))) (mup_s _ _ _) (Off.m0 _ (by omega) (by omega)) b5 (by omega)
  refine mj_aload_n 0 dX0_nextRider_10 rfl ?_
  refine mj_aload_n 0 dX0_nextRider_11 rfl ?_
  refine mj_getf dX0_nextRider_12 fgX0_34 (by repeat (first | assumption | exact mup_s _ _ _ | rw [mup_n _ _ (by omega)])) rfl ?_
  refine mj_iconst (v := 1) dX0_nextRider_15 rfl ?_
  refine mj_isub dX0_nextRider_16 ?_
  refine mj_eq (nI_p _) ?_
  refine mj_cV1 [_] (RX0, TX0, 5) dX0_nextRider_17 cwX0_rider lkX0_45 (by repeat (first | assumption | exact mup_s _ _ _ | rw [mup_n _ _ (by omega)])) rfl rfl rfl rfl (cn_X0_rider q (j := bnr B) rfl (by show bnr B < bnr B + 1; omega)) ⟨Nat.le_of_ble_eq_true rfl, Nat.le_of_ble_eq_true rfl, Nat.le_of_ble_eq_true rfl, Nat.le_of_ble_eq_true rfl, Nat.le_of_ble_eq_true rfl⟩ (fun h' e' => ?_)
  subst e'
  exact mj_aret dX0_nextRider_20 rfl (Or.inr ⟨_, rfl⟩) (Nat.le_of_ble_eq_true rfl) (Nat.le_of_ble_eq_true rfl) ⟨rfl, rfl, ⟨q, Off.m0 _ (by omega) (by omega)⟩⟩
set_option maxRecDepth 100000 in
set_option maxHeartbeats 4000000 in
theorem cn_X0_clear {K : KX} {n : Nat} {h : MH} {a : Nat} {B : BS} (b : Bd h a B) : Con K mX0_clear [.ref a] 0 0 n h (RetP none n (fun h' => Bd h' a (b_head B 0 0 500) ∧ Off a (a + 1) h h')) := by
  have b9 := b
  obtain ⟨b0, ⟨f1, b1, e1⟩, ⟨f2, b2, e2⟩, b3, b4, b5, b6⟩ := b
  refine Con.of (by decide +kernel) (Nat.le_of_ble_eq_true rfl) ?_
  refine mj_aload_n 0 dX0_clear_0 rfl ?_
  refine mj_iconst (v := 0) dX0_clear_1 rfl ?_
  refine mj_putf dX0_clear_2 fgX0_31 (by repeat (first | assumption | exact mup_s _ _ _ | rw [mup_n _ _ (by omega)])) rfl rfl rfl (Nat.le_of_ble_eq_true rfl) rfl ?_
  refine mj_aload_n 0 dX0_clear_5 rfl ?_
  refine mj_iconst (v := 0) dX0_clear_6 rfl ?_
  refine mj_putf dX0_clear_7 fgX0_34 (by repeat (first | assumption | exact mup_s _ _ _ | rw [mup_n _ _ (by omega)])) rfl rfl rfl (Nat.le_of_ble_eq_true rfl) rfl ?_
  refine mj_aload_n 0 dX0_clear_10 rfl ?_
  refine mj_sipush (v := (500)) dX0_clear_11 rfl ?_
  refine mj_putf dX0_clear_14 fgX0_23 (by repeat (first | assumption | exact mup_s _ _ _ | rw [mup_n _ _ (by omega)])) rfl rfl rfl (Nat.le_of_ble_eq_true rfl) rfl ?_
  exact mj_vret dX0_clear_17 rfl (Nat.le_of_ble_eq_true rfl) (Nat.le_of_ble_eq_true rfl) ⟨rfl, rfl, ⟨b9.head (by repeat (first | assumption | exact mup_s _ _ _ | rw [mup_n _ _ (by omega)])) (by repeat (first | exact Off.rf | assumption | refine Off.m ?_ _ (by omega) (by omega))) (by omega) (by omega), (by repeat (first | exact Off.rf | assumption | refine Off.m ?_ _ (by omega) (by omega)))⟩⟩
