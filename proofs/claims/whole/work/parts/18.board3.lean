theorem lgc_lt {x y : Int64} : lg_cmp x y < 0 ↔ x < y := by
  unfold lg_cmp
  by_cases h1 : x > y
  · rw [if_pos h1]
    have : ¬ x < y := fun h => absurd (Int64.lt_trans h h1) (Int64.lt_irrefl)
    simp [this]
  · rw [if_neg h1]
    by_cases h2 : x = y
    · rw [if_pos h2, h2]
      have : ¬ y < y := Int64.lt_irrefl
      simp [this]
    · rw [if_neg h2]
      have : x < y := Int64.lt_of_le_of_ne (Int64.not_lt.mp h1) h2
      simp [this]
theorem lgc_eq {x y : Int64} : lg_cmp x y = 0 ↔ x = y := by
  unfold lg_cmp
  by_cases h1 : x > y
  · rw [if_pos h1]
    have : ¬ x = y := fun h => absurd h1 (by rw [h]; exact Int64.lt_irrefl)
    simp [this]
  · rw [if_neg h1]
    by_cases h2 : x = y
    · simp [h2]
    · simp [h2]
/-- a credit stands ahead of another: lower, or equal and of the lower number -/
def c_ahead (c1 : Int64) (i : Nat) (c2 : Int64) (j : Nat) : Bool := decide (c1 < c2) || (decide (c1 = c2) && decide (i < j))
def b_debt (B : BS) (c : Int64) (j : Nat) : Nat → Nat
  | 0 => 0
  | k + 1 => b_debt B c j k + if c_ahead (qcr (bX B k)) k c j then 1 else 0
theorem b_debt_le (B : BS) (c : Int64) (j : Nat) : ∀ k, b_debt B c j k ≤ k
  | 0 => Nat.le_refl 0
  | k + 1 => by
    have := b_debt_le B c j k
    simp only [b_debt]
    split <;> omega
def Tok (B : BS) : Prop := ∀ d, d < bnd B → 2 ≤ rn (bT B d)
set_option maxRecDepth 100000 in
set_option maxHeartbeats 4000000 in
theorem cn_X0_ridersInGreaterDebt {K : KX} {n : Nat} {h : MH} {a : Nat} {B : BS} (b : Bd h a B) {j : Nat} (hj : j < bnr B) : Con K mX0_ridersInGreaterDebt [.ref a, .ref (a + 51 + j)] 0 0 n h (Ret (some (.int (nI (b_debt B (qcr (bX B j)) j (bnr B))))) n h) := by
  have b9 := b
  obtain ⟨b0, ⟨f1, b1, e1⟩, ⟨f2, b2, e2⟩, b3, b4, b5, b6⟩ := b
  refine Con.of (by decide +kernel) (Nat.le_of_ble_eq_true rfl) ?_
  have loop : ∀ (f : Nat) (k c : Nat), k + f = bnr B → c = b_debt B (qcr (bX B j)) j k → GG (K, mX0_ridersInGreaterDebt, 0, 0, Ret (some (.int (nI (b_debt B (qcr (bX B j)) j (bnr B))))) n h) 0 0 4 [(3, .int (nI k)), (2, .int (nI c)), (0, .ref a), (1, .ref (a + 51 + j))] [] n h := by
    intro f
    induction f with
    | zero =>
      intro k c hk hc
      refine mj_iload_n 0 dX0_ridersInGreaterDebt_4 rfl ?_
      refine mj_aload_n 2 dX0_ridersInGreaterDebt_5 rfl ?_
      refine mj_getf dX0_ridersInGreaterDebt_6 fgX0_34 (by repeat (first | assumption | exact mup_s _ _ _ | rw [mup_n _ _ (by omega)])) rfl ?_
      refine mj_icmp_ge 59 dX0_ridersInGreaterDebt_9 (by decide) (fun c_9 => ?_) (fun c_9 => ?_)
      · refine mj_iload_n 1 dX0_ridersInGreaterDebt_59 rfl ?_
        exact mj_iret dX0_ridersInGreaterDebt_60 rfl (Nat.le_of_ble_eq_true rfl) (Nat.le_of_ble_eq_true rfl) ⟨(by rw [hc, show bnr B = k by omega]), rfl, rfl⟩
      · exact absurd (nI_le (by omega) (by omega)) c_9
    | succ f ih =>
      intro k c hk hc
      have q0 := b4 k (by omega)
      have q1 := b4 j (by omega)
      have q2 := b_debt_le B (qcr (bX B j)) j k
      refine mj_iload_n 0 dX0_ridersInGreaterDebt_4 rfl ?_
      refine mj_aload_n 2 dX0_ridersInGreaterDebt_5 rfl ?_
      refine mj_getf dX0_ridersInGreaterDebt_6 fgX0_34 (by repeat (first | assumption | exact mup_s _ _ _ | rw [mup_n _ _ (by omega)])) rfl ?_
      refine mj_icmp_ge 59 dX0_ridersInGreaterDebt_9 (by decide) (fun c_9 => ?_) (fun c_9 => ?_)
      · exact absurd c_9 (nI_ge (by omega) (by omega))
      · refine mj_aload_n 2 dX0_ridersInGreaterDebt_12 rfl ?_
        refine mj_iload_n 0 dX0_ridersInGreaterDebt_13 rfl ?_
        refine mj_cV1 [_] (RX0, TX0, 5) dX0_ridersInGreaterDebt_14 cwX0_rider lkX0_45 (by repeat (first | assumption | exact mup_s _ _ _ | rw [mup_n _ _ (by omega)])) rfl rfl rfl rfl (cn_X0_rider b9 (j := k) rfl (by omega)) ⟨Nat.le_of_ble_eq_true rfl, Nat.le_of_ble_eq_true rfl, Nat.le_of_ble_eq_true rfl, Nat.le_of_ble_eq_true rfl, Nat.le_of_ble_eq_true rfl⟩ (fun h' e' => ?_)
        subst e'
        refine mj_getf dX0_ridersInGreaterDebt_17 fgX0_84 (by repeat (first | assumption | exact mup_s _ _ _ | rw [mup_n _ _ (by omega)])) rfl ?_
        refine mj_lstore (ls' := [(4, _), (3, _), (2, _), (0, _), (1, _)]) dX0_ridersInGreaterDebt_20 (Nat.le_of_ble_eq_true rfl) rfl ?_
        refine mj_lload 0 dX0_ridersInGreaterDebt_22 rfl ?_
        refine mj_aload_n 4 dX0_ridersInGreaterDebt_24 rfl ?_
        refine mj_getf dX0_ridersInGreaterDebt_25 fgX0_84 (by repeat (first | assumption | exact mup_s _ _ _ | rw [mup_n _ _ (by omega)])) rfl ?_
        refine mj_lcmp dX0_ridersInGreaterDebt_28 ?_
        refine mj_if_lt 50 dX0_ridersInGreaterDebt_29 (by decide) (fun c_29 => ?_) (fun c_29 => ?_)
        · have z := lgc_lt.mp c_29
          refine mj_iinc (ls' := [(2, _), (4, _), (3, _), (0, _), (1, _)]) 2 dX0_ridersInGreaterDebt_50 rfl (nI_s _) (Nat.le_of_ble_eq_true rfl) rfl ?_
          refine mj_iinc (ls' := [(3, _), (2, _), (4, _), (0, _), (1, _)]) 2 dX0_ridersInGreaterDebt_53 rfl (nI_s _) (Nat.le_of_ble_eq_true rfl) rfl ?_
          refine mj_goto 4 dX0_ridersInGreaterDebt_56 (by decide) ?_
          first
            | exact mj_ls [0, 1, 3, 4] rfl (ih (k + 1) c (by omega) (by rw [hc]; simp [b_debt, c_ahead, *]))
            | exact mj_ls [0, 1, 3, 4] rfl (ih (k + 1) (c + 1) (by omega) (by rw [hc]; simp [b_debt, c_ahead, *]))
        · have z : ¬ _ := fun z => c_29 (lgc_lt.mpr z)
          refine mj_lload 0 dX0_ridersInGreaterDebt_32 rfl ?_
          refine mj_aload_n 4 dX0_ridersInGreaterDebt_34 rfl ?_
          refine mj_getf dX0_ridersInGreaterDebt_35 fgX0_84 (by repeat (first | assumption | exact mup_s _ _ _ | rw [mup_n _ _ (by omega)])) rfl ?_
          refine mj_lcmp dX0_ridersInGreaterDebt_38 ?_
          refine mj_if_ne 53 dX0_ridersInGreaterDebt_39 (by decide) (fun c_39 => ?_) (fun c_39 => ?_)
          · have z2 : ¬ _ := fun z => c_39 (lgc_eq.mpr z)
            refine mj_iinc (ls' := [(3, _), (4, _), (2, _), (0, _), (1, _)]) 1 dX0_ridersInGreaterDebt_53 rfl (nI_s _) (Nat.le_of_ble_eq_true rfl) rfl ?_
            refine mj_goto 4 dX0_ridersInGreaterDebt_56 (by decide) ?_
            first
              | exact mj_ls [0, 2, 3, 4] rfl (ih (k + 1) c (by omega) (by rw [hc]; simp [b_debt, c_ahead, *]))
              | exact mj_ls [0, 2, 3, 4] rfl (ih (k + 1) (c + 1) (by omega) (by rw [hc]; simp [b_debt, c_ahead, *]))
          · have z2 := lgc_eq.mp c_39
            refine mj_iload_n 1 dX0_ridersInGreaterDebt_42 rfl ?_
            refine mj_aload_n 4 dX0_ridersInGreaterDebt_43 rfl ?_
            refine mj_getf dX0_ridersInGreaterDebt_44 fgX0_88 (by repeat (first | assumption | exact mup_s _ _ _ | rw [mup_n _ _ (by omega)])) rfl ?_
            refine mj_icmp_ge 53 dX0_ridersInGreaterDebt_47 (by decide) (fun c_47 => ?_) (fun c_47 => ?_)
            · have z3 : ¬ k < j := fun z => nI_ge z (by omega) c_47
              refine mj_iinc (ls' := [(3, _), (4, _), (2, _), (0, _), (1, _)]) 1 dX0_ridersInGreaterDebt_53 rfl (nI_s _) (Nat.le_of_ble_eq_true rfl) rfl ?_
              refine mj_goto 4 dX0_ridersInGreaterDebt_56 (by decide) ?_
              first
                | exact mj_ls [0, 2, 3, 4] rfl (ih (k + 1) c (by omega) (by rw [hc]; simp [b_debt, c_ahead, *]))
                | exact mj_ls [0, 2, 3, 4] rfl (ih (k + 1) (c + 1) (by omega) (by rw [hc]; simp [b_debt, c_ahead, *]))
            · have z3 : k < j := Nat.lt_of_not_le fun z => c_47 (nI_le z (by omega))
              refine mj_iinc (ls' := [(2, _), (4, _), (3, _), (0, _), (1, _)]) 2 dX0_ridersInGreaterDebt_50 rfl (nI_s _) (Nat.le_of_ble_eq_true rfl) rfl ?_
              refine mj_iinc (ls' := [(3, _), (2, _), (4, _), (0, _), (1, _)]) 2 dX0_ridersInGreaterDebt_53 rfl (nI_s _) (Nat.le_of_ble_eq_true rfl) rfl ?_
              refine mj_goto 4 dX0_ridersInGreaterDebt_56 (by decide) ?_
              first
                | exact mj_ls [0, 1, 3, 4] rfl (ih (k + 1) c (by omega) (by rw [hc]; simp [b_debt, c_ahead, *]))
                | exact mj_ls [0, 1, 3, 4] rfl (ih (k + 1) (c + 1) (by omega) (by rw [hc]; simp [b_debt, c_ahead, *]))
  refine mj_iconst (v := 0) dX0_ridersInGreaterDebt_0 rfl ?_
  refine mj_istore_n (ls' := [(2, _), (0, _), (1, _)]) dX0_ridersInGreaterDebt_1 (Nat.le_of_ble_eq_true rfl) rfl ?_
  refine mj_iconst (v := 0) dX0_ridersInGreaterDebt_2 rfl ?_
  refine mj_istore_n (ls' := [(3, _), (2, _), (0, _), (1, _)]) dX0_ridersInGreaterDebt_3 (Nat.le_of_ble_eq_true rfl) rfl ?_
  exact mj_ls [0, 1, 2, 3] rfl (loop (bnr B) 0 0 (by omega) rfl)
def b_cntTo (B : BS) : Nat → Nat
  | 0 => 0
  | k + 1 => b_cntTo B k + if (nI (rn (bT B k)) - 2) / 2 ≤ 0 then 0 else 1
theorem b_cntTo_le (B : BS) : ∀ k, b_cntTo B k ≤ k
  | 0 => Nat.le_refl 0
  | k + 1 => by
    have := b_cntTo_le B k
    simp only [b_cntTo]
    split <;> omega
def b_sumTo (B : BS) : Nat → Int32
  | 0 => 0
  | k + 1 => b_sumTo B k + r_det (bT B k)
set_option maxRecDepth 100000 in
set_option maxHeartbeats 4000000 in
theorem cn_X0_driversWithRiders {K : KX} {n : Nat} {h : MH} {a : Nat} {B : BS} (b : Bd h a B) : Con K mX0_driversWithRiders [.ref a] 0 0 n h (Ret (some (.int (nI (b_cntTo B (bnd B))))) n h) := by
  have b9 := b
  obtain ⟨b0, ⟨f1, b1, e1⟩, ⟨f2, b2, e2⟩, b3, b4, b5, b6⟩ := b
  refine Con.of (by decide +kernel) (Nat.le_of_ble_eq_true rfl) ?_
  have loop : ∀ (f : Nat) (k c : Nat), k + f = bnd B → c = b_cntTo B k → GG (K, mX0_driversWithRiders, 0, 0, Ret (some (.int (nI (b_cntTo B (bnd B))))) n h) 0 0 4 [(2, .int (nI k)), (1, .int (nI c)), (0, .ref a)] [] n h := by
    intro f
    induction f with
    | zero =>
      intro k c hk hc
      refine mj_iload_n 0 dX0_driversWithRiders_4 rfl ?_
      refine mj_aload_n 2 dX0_driversWithRiders_5 rfl ?_
      refine mj_getf dX0_driversWithRiders_6 fgX0_31 (by repeat (first | assumption | exact mup_s _ _ _ | rw [mup_n _ _ (by omega)])) rfl ?_
      refine mj_icmp_ge 35 dX0_driversWithRiders_9 (by decide) (fun c_9 => ?_) (fun c_9 => ?_)
      · refine mj_iload_n 1 dX0_driversWithRiders_35 rfl ?_
        exact mj_iret dX0_driversWithRiders_36 rfl (Nat.le_of_ble_eq_true rfl) (Nat.le_of_ble_eq_true rfl) ⟨(by rw [hc, show bnd B = k by omega]), rfl, rfl⟩
      · exact absurd (nI_le (by omega) (by omega)) c_9
    | succ f ih =>
      intro k c hk hc
      obtain ⟨q0, q1⟩ := b3 k (by omega)
      refine mj_iload_n 0 dX0_driversWithRiders_4 rfl ?_
      refine mj_aload_n 2 dX0_driversWithRiders_5 rfl ?_
      refine mj_getf dX0_driversWithRiders_6 fgX0_31 (by repeat (first | assumption | exact mup_s _ _ _ | rw [mup_n _ _ (by omega)])) rfl ?_
      refine mj_icmp_ge 35 dX0_driversWithRiders_9 (by decide) (fun c_9 => ?_) (fun c_9 => ?_)
      · exact absurd c_9 (nI_ge (by omega) (by omega))
      · refine mj_aload_n 2 dX0_driversWithRiders_12 rfl ?_
        refine mj_iload_n 0 dX0_driversWithRiders_13 rfl ?_
        refine mj_cV1 [_] (RX0, TX0, 5) dX0_driversWithRiders_14 cwX0_driver lkX0_37 (by repeat (first | assumption | exact mup_s _ _ _ | rw [mup_n _ _ (by omega)])) rfl rfl rfl rfl (cn_X0_driver b9 (j := k) rfl (by omega)) ⟨Nat.le_of_ble_eq_true rfl, Nat.le_of_ble_eq_true rfl, Nat.le_of_ble_eq_true rfl, Nat.le_of_ble_eq_true rfl, Nat.le_of_ble_eq_true rfl⟩ (fun h' e' => ?_)
        subst e'
        refine mj_getf dX0_driversWithRiders_17 fgX0_74 (by repeat (first | assumption | exact mup_s _ _ _ | rw [mup_n _ _ (by omega)])) rfl ?_
        refine mj_cV1 [] (RX6, TX6, 5) dX0_driversWithRiders_20 cwX6_riderTotal lkX0_91 (q1.1) rfl rfl rfl rfl (cn_X6_riderTotal q1) ⟨Nat.le_of_ble_eq_true rfl, Nat.le_of_ble_eq_true rfl, Nat.le_of_ble_eq_true rfl, Nat.le_of_ble_eq_true rfl, Nat.le_of_ble_eq_true rfl⟩ (fun h' e' => ?_)
        subst e'
        refine mj_if_le 29 dX0_driversWithRiders_23 (by decide) (fun c_23 => ?_) (fun c_23 => ?_)
        · refine mj_iinc (ls' := [(2, _), (1, _), (0, _)]) 0 dX0_driversWithRiders_29 rfl (nI_s _) (Nat.le_of_ble_eq_true rfl) rfl ?_
          refine mj_goto 4 dX0_driversWithRiders_32 (by decide) ?_
          first
            | exact mj_ls [0, 1, 2] rfl (ih (k + 1) c (by omega) (by rw [hc]; simp [b_cntTo, *]))
            | exact mj_ls [0, 1, 2] rfl (ih (k + 1) (c + 1) (by omega) (by rw [hc]; simp [b_cntTo, *]))
        · refine mj_iinc (ls' := [(1, _), (2, _), (0, _)]) 1 dX0_driversWithRiders_26 rfl (nI_s _) (Nat.le_of_ble_eq_true rfl) rfl ?_
          refine mj_iinc (ls' := [(2, _), (1, _), (0, _)]) 1 dX0_driversWithRiders_29 rfl (nI_s _) (Nat.le_of_ble_eq_true rfl) rfl ?_
          refine mj_goto 4 dX0_driversWithRiders_32 (by decide) ?_
          first
            | exact mj_ls [0, 1, 2] rfl (ih (k + 1) c (by omega) (by rw [hc]; simp [b_cntTo, *]))
            | exact mj_ls [0, 1, 2] rfl (ih (k + 1) (c + 1) (by omega) (by rw [hc]; simp [b_cntTo, *]))
  refine mj_iconst (v := 0) dX0_driversWithRiders_0 rfl ?_
  refine mj_istore_n (ls' := [(1, _), (0, _)]) dX0_driversWithRiders_1 (Nat.le_of_ble_eq_true rfl) rfl ?_
  refine mj_iconst (v := 0) dX0_driversWithRiders_2 rfl ?_
  refine mj_istore_n (ls' := [(2, _), (1, _), (0, _)]) dX0_driversWithRiders_3 (Nat.le_of_ble_eq_true rfl) rfl ?_
  exact mj_ls [0, 1, 2] rfl (loop (bnd B) 0 0 (by omega) rfl)
set_option maxRecDepth 100000 in
set_option maxHeartbeats 4000000 in
theorem cn_X0_sumOfDetours {K : KX} {n : Nat} {h : MH} {a : Nat} {B : BS} (b : Bd h a B) (ht : Tok B) : Con K mX0_sumOfDetours [.ref a] 0 0 n h (Ret (some (.int (b_sumTo B (bnd B)))) n h) := by
  have b9 := b
  obtain ⟨b0, ⟨f1, b1, e1⟩, ⟨f2, b2, e2⟩, b3, b4, b5, b6⟩ := b
  refine Con.of (by decide +kernel) (Nat.le_of_ble_eq_true rfl) ?_
  have loop : ∀ (f : Nat) (k : Nat), k + f = bnd B → GG (K, mX0_sumOfDetours, 0, 0, Ret (some (.int (b_sumTo B (bnd B)))) n h) 0 0 4 [(2, .int (nI k)), (1, .int (b_sumTo B k)), (0, .ref a)] [] n h := by
    intro f
    induction f with
    | zero =>
      intro k hk
      refine mj_iload_n 0 dX0_sumOfDetours_4 rfl ?_
      refine mj_aload_n 2 dX0_sumOfDetours_5 rfl ?_
      refine mj_getf dX0_sumOfDetours_6 fgX0_31 (by repeat (first | assumption | exact mup_s _ _ _ | rw [mup_n _ _ (by omega)])) rfl ?_
      refine mj_icmp_ge 32 dX0_sumOfDetours_9 (by decide) (fun c_9 => ?_) (fun c_9 => ?_)
      · refine mj_iload_n 1 dX0_sumOfDetours_32 rfl ?_
        exact mj_iret dX0_sumOfDetours_33 rfl (Nat.le_of_ble_eq_true rfl) (Nat.le_of_ble_eq_true rfl) ⟨(by rw [show bnd B = k by omega]), rfl, rfl⟩
      · exact absurd (nI_le (by omega) (by omega)) c_9
    | succ f ih =>
      intro k hk
      obtain ⟨q0, q1⟩ := b3 k (by omega)
      have q2 := ht k (by omega)
      refine mj_iload_n 0 dX0_sumOfDetours_4 rfl ?_
      refine mj_aload_n 2 dX0_sumOfDetours_5 rfl ?_
      refine mj_getf dX0_sumOfDetours_6 fgX0_31 (by repeat (first | assumption | exact mup_s _ _ _ | rw [mup_n _ _ (by omega)])) rfl ?_
      refine mj_icmp_ge 32 dX0_sumOfDetours_9 (by decide) (fun c_9 => ?_) (fun c_9 => ?_)
      · exact absurd c_9 (nI_ge (by omega) (by omega))
      · refine mj_iload_n 1 dX0_sumOfDetours_12 rfl ?_
        refine mj_aload_n 2 dX0_sumOfDetours_13 rfl ?_
        refine mj_iload_n 0 dX0_sumOfDetours_14 rfl ?_
        refine mj_cV1 [_] (RX0, TX0, 5) dX0_sumOfDetours_15 cwX0_driver lkX0_37 (by repeat (first | assumption | exact mup_s _ _ _ | rw [mup_n _ _ (by omega)])) rfl rfl rfl rfl (cn_X0_driver b9 (j := k) rfl (by omega)) ⟨Nat.le_of_ble_eq_true rfl, Nat.le_of_ble_eq_true rfl, Nat.le_of_ble_eq_true rfl, Nat.le_of_ble_eq_true rfl, Nat.le_of_ble_eq_true rfl⟩ (fun h' e' => ?_)
        subst e'
        refine mj_getf dX0_sumOfDetours_18 fgX0_74 (by repeat (first | assumption | exact mup_s _ _ _ | rw [mup_n _ _ (by omega)])) rfl ?_
        refine mj_cV1 [] (RX6, TX6, 5) dX0_sumOfDetours_21 cwX6_detourLength lkX0_94 (q1.1) rfl rfl rfl rfl (cn_X6_detourLength q1 (by omega)) ⟨Nat.le_of_ble_eq_true rfl, Nat.le_of_ble_eq_true rfl, Nat.le_of_ble_eq_true rfl, Nat.le_of_ble_eq_true rfl, Nat.le_of_ble_eq_true rfl⟩ (fun h' e' => ?_)
        subst e'
        refine mj_iadd dX0_sumOfDetours_24 ?_
        refine mj_istore_n (ls' := [(1, _), (2, _), (0, _)]) dX0_sumOfDetours_25 (Nat.le_of_ble_eq_true rfl) rfl ?_
        refine mj_iinc (ls' := [(2, _), (1, _), (0, _)]) 1 dX0_sumOfDetours_26 rfl (nI_s _) (Nat.le_of_ble_eq_true rfl) rfl ?_
        refine mj_goto 4 dX0_sumOfDetours_29 (by decide) ?_
        exact mj_ls [0, 1, 2] rfl (ih (k + 1) (by omega))
  refine mj_iconst (v := 0) dX0_sumOfDetours_0 rfl ?_
  refine mj_istore_n (ls' := [(1, _), (0, _)]) dX0_sumOfDetours_1 (Nat.le_of_ble_eq_true rfl) rfl ?_
  refine mj_iconst (v := 0) dX0_sumOfDetours_2 rfl ?_
  refine mj_istore_n (ls' := [(2, _), (1, _), (0, _)]) dX0_sumOfDetours_3 (Nat.le_of_ble_eq_true rfl) rfl ?_
  exact mj_ls [0, 1, 2] rfl (loop (bnd B) 0 (by omega))
def x_free (X : RdS) : RdS := if qst X = 1 then (qfx X, qfy X, qtx X, qty X, qrd X, qdl X, 0, -1, qcr X) else X
def b_freeX (B : BS) (k : Nat) : BS := (bnd B, bnr B, bpe B, bD B, bT B, fun r => if r < k then x_free (bX B r) else bX B r)
def t_free (B : BS) (d : Nat) : RS := if ddo (bD B d) then bT B d else r_like (bT B d) (bT B d)
def b_freeT (B : BS) (k : Nat) : BS := (bnd B, bnr B, bpe B, bD B, fun d => if d < k then t_free B d else bT B d, bX B)
theorem b_freeX_go (B : BS) (k : Nat) : b_setX (b_freeX B k) k (x_free (bX B k)) = b_freeX B (k + 1) := by
  unfold b_setX b_freeX bX
  dsimp only
  congr 5
  funext j
  by_cases e : j = k
  · rw [e, vf_s, if_pos (by omega)]
  · rw [vf_n _ _ e]
    by_cases h : j < k
    · rw [if_pos h, if_pos (by omega)]
    · rw [if_neg h, if_neg (by omega)]
theorem b_freeX_k (B : BS) (k : Nat) : bX (b_freeX B k) k = bX B k := by
  show (if k < k then _ else _) = _
  rw [if_neg (by omega)]
theorem b_freeX_same (B : BS) (k : Nat) (h : ¬ qst (bX B k) = 1) : b_freeX B (k + 1) = b_freeX B k := by
  have : x_free (bX B k) = bX B k := if_neg h
  rw [← b_freeX_go, this]
  unfold b_setX
  conv => lhs; rw [← b_freeX_k B k]
  rw [vf_id]
theorem b_freeT_go (B : BS) (k : Nat) : b_setT (b_freeT B k) k (t_free B k) = b_freeT B (k + 1) := by
  unfold b_setT b_freeT bT
  dsimp only
  congr 4
  congr 1
  funext j
  by_cases e : j = k
  · rw [e, vf_s, if_pos (by omega)]
  · rw [vf_n _ _ e]
    by_cases h : j < k
    · rw [if_pos h, if_pos (by omega)]
    · rw [if_neg h, if_neg (by omega)]
theorem b_freeT_k (B : BS) (k : Nat) : bT (b_freeT B k) k = bT B k := by
  show (if k < k then _ else _) = _
  rw [if_neg (by omega)]
theorem b_freeT_same (B : BS) (k : Nat) (h : ddo (bD B k) = true) : b_freeT B (k + 1) = b_freeT B k := by
  have : t_free B k = bT B k := if_pos h
  rw [← b_freeT_go, this]
  unfold b_setT
  conv => lhs; rw [← b_freeT_k B k]
  rw [vf_id]
def b_free (B : BS) : BS := b_freeT (b_freeX B (bnr B)) (bnd B)
set_option maxRecDepth 100000 in
set_option maxHeartbeats 4000000 in
theorem cn_X0_freeAssignedRiders {K : KX} {n : Nat} {h : MH} {a : Nat} {B : BS} (b : Bd h a B) (ht : Tok B) : Con K mX0_freeAssignedRiders [.ref a] 0 0 n h (RetP none n (fun h' => Bd h' a (b_free B) ∧ Off a (a + 71) h h')) := by
  have b9 := b
  obtain ⟨b0, ⟨f1, b1, e1⟩, ⟨f2, b2, e2⟩, b3, b4, b5, b6⟩ := b
  refine Con.of (by decide +kernel) (Nat.le_of_ble_eq_true rfl) ?_
  have loop2 : ∀ (f : Nat) (k : Nat) (h1 : MH) (ls : List (Nat × Value)), k + f = bnd B → Bd h1 a (b_freeT (b_freeX B (bnr B)) k) → Off a (a + 71) h h1 → ls = (1, .int (nI k)) :: [(0, .ref a)] → GG (K, mX0_freeAssignedRiders, 0, 0, RetP none n (fun h' => Bd h' a (b_free B) ∧ Off a (a + 71) h h')) 0 0 42 ls [] n h1 := by
    intro f
    induction f with
    | zero =>
      intro k h1 ls hk b9 o hl
      subst hl
      obtain ⟨b0, ⟨f1, b1, e1⟩, ⟨f2, b2, e2⟩, b3, b4, b5, b6⟩ := id b9
      refine mj_iload_n 0 dX0_freeAssignedRiders_42 rfl ?_
      refine mj_aload_n 1 dX0_freeAssignedRiders_43 rfl ?_
      refine mj_getf dX0_freeAssignedRiders_44 fgX0_31 (by repeat (first | assumption | exact mup_s _ _ _ | rw [mup_n _ _ (by omega)])) rfl ?_
      refine mj_icmp_ge 80 dX0_freeAssignedRiders_47 (by decide) (fun c_47 => ?_) (fun c_47 => ?_)
      · exact mj_vret dX0_freeAssignedRiders_80 rfl (Nat.le_of_ble_eq_true rfl) (Nat.le_of_ble_eq_true rfl) ⟨rfl, rfl, ⟨(by obtain rfl : k = bnd B := (by omega); exact b9), o⟩⟩
      · exact absurd (nI_le (show bnd B ≤ k by omega) (by omega)) c_47
    | succ f ih =>
      intro k h1 ls hk b9 o hl
      subst hl
      obtain ⟨b0, ⟨f1, b1, e1⟩, ⟨f2, b2, e2⟩, b3, b4, b5, b6⟩ := id b9
      obtain ⟨q0, q1⟩ := b3 k (by omega)
      have qt := b_freeT_k (b_freeX B (bnr B)) k
      rw [qt] at q1
      refine mj_iload_n 0 dX0_freeAssignedRiders_42 rfl ?_
      refine mj_aload_n 1 dX0_freeAssignedRiders_43 rfl ?_
      refine mj_getf dX0_freeAssignedRiders_44 fgX0_31 (by repeat (first | assumption | exact mup_s _ _ _ | rw [mup_n _ _ (by omega)])) rfl ?_
      refine mj_icmp_ge 80 dX0_freeAssignedRiders_47 (by decide) (fun c_47 => ?_) (fun c_47 => ?_)
      · exact absurd c_47 (nI_ge (show k < bnd B by omega) (by omega))
      · refine mj_aload_n 1 dX0_freeAssignedRiders_50 rfl ?_
        refine mj_iload_n 0 dX0_freeAssignedRiders_51 rfl ?_
        refine mj_cV1 [_] (RX0, TX0, 5) dX0_freeAssignedRiders_52 cwX0_driver lkX0_37 (by repeat (first | assumption | exact mup_s _ _ _ | rw [mup_n _ _ (by omega)])) rfl rfl rfl rfl (cn_X0_driver b9 (j := k) rfl (by show k < bnd B; omega)) ⟨Nat.le_of_ble_eq_true rfl, Nat.le_of_ble_eq_true rfl, Nat.le_of_ble_eq_true rfl, Nat.le_of_ble_eq_true rfl, Nat.le_of_ble_eq_true rfl⟩ (fun h' e' => ?_)
        subst e'
        refine mj_astore_n (ls' := [(2, _), (1, _), (0, _)]) dX0_freeAssignedRiders_55 (Nat.le_of_ble_eq_true rfl) rfl ?_
        refine mj_aload_n 0 dX0_freeAssignedRiders_56 rfl ?_
        refine mj_getf dX0_freeAssignedRiders_57 fgX0_70 (by repeat (first | assumption | exact mup_s _ _ _ | rw [mup_n _ _ (by omega)])) rfl ?_
        refine mj_if_ne 74 dX0_freeAssignedRiders_60 (by decide) (fun c_60 => ?_) (fun c_60 => ?_)
        · have z := bI_n0.mp c_60
          refine mj_iinc (ls' := [(1, _), (2, _), (0, _)]) 1 dX0_freeAssignedRiders_74 rfl (nI_s _) (Nat.le_of_ble_eq_true rfl) rfl ?_
          refine mj_goto 42 dX0_freeAssignedRiders_77 (by decide) ?_
          first
            | exact mj_ls [0, 2] rfl (ih (k + 1) _ _ (by omega) (by rw [b_freeT_same (b_freeX B (bnr B)) k z]; exact b9) o rfl)
            | exact mj_ls [0, 2] rfl (ih (k + 1) _ _ (by omega) (by rw [← b_freeT_go (b_freeX B (bnr B)) k]; unfold t_free; rw [if_neg (by rw [show ddo (bD (b_freeX B (bnr B)) k) = false from z]; decide)]; exact b9.setT (by omega) (by rw [show a + 4 + 6 * k = a + 3 + 6 * k + 1 by omega]; exact t1) (t2.up (by omega) (by omega))) (o.tr (t2.up (by omega) (by omega))) rfl)
        · have z := bI_0.mp c_60
          refine mj_aload_n 0 dX0_freeAssignedRiders_63 rfl ?_
          refine mj_getf dX0_freeAssignedRiders_64 fgX0_74 (by repeat (first | assumption | exact mup_s _ _ _ | rw [mup_n _ _ (by omega)])) rfl ?_
          refine mj_aload_n 0 dX0_freeAssignedRiders_67 rfl ?_
          refine mj_getf dX0_freeAssignedRiders_68 fgX0_74 (by repeat (first | assumption | exact mup_s _ _ _ | rw [mup_n _ _ (by omega)])) rfl ?_
          refine mj_cV0 [_] (RX6, TX6, 5) dX0_freeAssignedRiders_71 cwX6_beginLike lkX0_78 (q1.1) rfl rfl rfl rfl (cn_X6_beginLike q1 q1 (by have := ht k (by omega); exact Nat.le_trans (by omega) this)) ⟨Nat.le_of_ble_eq_true rfl, Nat.le_of_ble_eq_true rfl, Nat.le_of_ble_eq_true rfl, Nat.le_of_ble_eq_true rfl, Nat.le_of_ble_eq_true rfl⟩ (fun h' e' => ?_)
          obtain ⟨t1, t2⟩ := e'
          refine mj_iinc (ls' := [(1, _), (2, _), (0, _)]) 1 dX0_freeAssignedRiders_74 rfl (nI_s _) (Nat.le_of_ble_eq_true rfl) rfl ?_
          refine mj_goto 42 dX0_freeAssignedRiders_77 (by decide) ?_
          first
            | exact mj_ls [0, 2] rfl (ih (k + 1) _ _ (by omega) (by rw [b_freeT_same (b_freeX B (bnr B)) k z]; exact b9) o rfl)
            | exact mj_ls [0, 2] rfl (ih (k + 1) _ _ (by omega) (by rw [← b_freeT_go (b_freeX B (bnr B)) k]; unfold t_free; rw [if_neg (by rw [show ddo (bD (b_freeX B (bnr B)) k) = false from z]; decide)]; exact b9.setT (by omega) (by rw [show a + 4 + 6 * k = a + 3 + 6 * k + 1 by omega]; exact t1) (t2.up (by omega) (by omega))) (o.tr (t2.up (by omega) (by omega))) rfl)
  have loop1 : ∀ (f : Nat) (k : Nat) (h1 : MH) (ls : List (Nat × Value)), k + f = bnr B → Bd h1 a (b_freeX B k) → Off a (a + 71) h h1 → ls = (1, .int (nI k)) :: [(0, .ref a)] → GG (K, mX0_freeAssignedRiders, 0, 0, RetP none n (fun h' => Bd h' a (b_free B) ∧ Off a (a + 71) h h')) 0 0 2 ls [] n h1 := by
    intro f
    induction f with
    | zero =>
      intro k h1 ls hk b9 o hl
      subst hl
      obtain ⟨b0, ⟨f1, b1, e1⟩, ⟨f2, b2, e2⟩, b3, b4, b5, b6⟩ := id b9
      refine mj_iload_n 0 dX0_freeAssignedRiders_2 rfl ?_
      refine mj_aload_n 1 dX0_freeAssignedRiders_3 rfl ?_
      refine mj_getf dX0_freeAssignedRiders_4 fgX0_34 (by repeat (first | assumption | exact mup_s _ _ _ | rw [mup_n _ _ (by omega)])) rfl ?_
      refine mj_icmp_ge 40 dX0_freeAssignedRiders_7 (by decide) (fun c_7 => ?_) (fun c_7 => ?_)
      · refine mj_iconst (v := 0) dX0_freeAssignedRiders_40 rfl ?_
        refine mj_istore_n (ls' := [(1, _), (0, _)]) dX0_freeAssignedRiders_41 (Nat.le_of_ble_eq_true rfl) rfl ?_
        exact mj_ls [0, 1] rfl (loop2 (bnd B) 0 _ _ (by omega) (by obtain rfl : k = bnr B := (by omega); exact b9) o rfl)
      · exact absurd (nI_le (show bnr B ≤ k by omega) (by omega)) c_7
    | succ f ih =>
      intro k h1 ls hk b9 o hl
      subst hl
      obtain ⟨b0, ⟨f1, b1, e1⟩, ⟨f2, b2, e2⟩, b3, b4, b5, b6⟩ := id b9
      have q0 := b4 k (by omega)
      rw [b_freeX_k] at q0
      refine mj_iload_n 0 dX0_freeAssignedRiders_2 rfl ?_
      refine mj_aload_n 1 dX0_freeAssignedRiders_3 rfl ?_
      refine mj_getf dX0_freeAssignedRiders_4 fgX0_34 (by repeat (first | assumption | exact mup_s _ _ _ | rw [mup_n _ _ (by omega)])) rfl ?_
      refine mj_icmp_ge 40 dX0_freeAssignedRiders_7 (by decide) (fun c_7 => ?_) (fun c_7 => ?_)
      · exact absurd c_7 (nI_ge (show k < bnr B by omega) (by omega))
      · refine mj_aload_n 1 dX0_freeAssignedRiders_10 rfl ?_
        refine mj_iload_n 0 dX0_freeAssignedRiders_11 rfl ?_
        refine mj_cV1 [_] (RX0, TX0, 5) dX0_freeAssignedRiders_12 cwX0_rider lkX0_45 (by repeat (first | assumption | exact mup_s _ _ _ | rw [mup_n _ _ (by omega)])) rfl rfl rfl rfl (cn_X0_rider b9 (j := k) rfl (by show k < bnr B; omega)) ⟨Nat.le_of_ble_eq_true rfl, Nat.le_of_ble_eq_true rfl, Nat.le_of_ble_eq_true rfl, Nat.le_of_ble_eq_true rfl, Nat.le_of_ble_eq_true rfl⟩ (fun h' e' => ?_)
        subst e'
        refine mj_astore_n (ls' := [(2, _), (1, _), (0, _)]) dX0_freeAssignedRiders_15 (Nat.le_of_ble_eq_true rfl) rfl ?_
        refine mj_aload_n 0 dX0_freeAssignedRiders_16 rfl ?_
        refine mj_getf dX0_freeAssignedRiders_17 fgX0_65 (by repeat (first | assumption | exact mup_s _ _ _ | rw [mup_n _ _ (by omega)])) rfl ?_
        refine mj_iconst (v := 1) dX0_freeAssignedRiders_20 rfl ?_
        refine mj_icmp_ne 34 dX0_freeAssignedRiders_21 (by decide) (fun c_21 => ?_) (fun c_21 => ?_)
        · refine mj_iinc (ls' := [(1, _), (2, _), (0, _)]) 1 dX0_freeAssignedRiders_34 rfl (nI_s _) (Nat.le_of_ble_eq_true rfl) rfl ?_
          refine mj_goto 2 dX0_freeAssignedRiders_37 (by decide) ?_
          first
            | exact mj_ls [0, 2] rfl (ih (k + 1) _ _ (by omega) (by rw [b_freeX_same B k c_21]; exact b9) o rfl)
            | exact mj_ls [0, 2] rfl (ih (k + 1) _ _ (by omega) (by rw [← b_freeX_go B k]; exact b9.setX (by omega) (by unfold x_free; rw [if_pos c_21]; exact mup_s _ _ _) ((Off.m0 _ (by omega) (by omega)).m _ (by omega) (by omega))) ((o.m _ (by omega) (by omega)).m _ (by omega) (by omega)) rfl)
        · refine mj_aload_n 0 dX0_freeAssignedRiders_24 rfl ?_
          refine mj_iconst (v := 0) dX0_freeAssignedRiders_25 rfl ?_
          refine mj_putf dX0_freeAssignedRiders_26 fgX0_65 (by repeat (first | assumption | exact mup_s _ _ _ | rw [mup_n _ _ (by omega)])) rfl rfl rfl (Nat.le_of_ble_eq_true rfl) rfl ?_
          refine mj_aload_n 0 dX0_freeAssignedRiders_29 rfl ?_
          refine mj_iconst (v := (-1)) dX0_freeAssignedRiders_30 rfl ?_
          refine mj_putf dX0_freeAssignedRiders_31 fgX0_68 (by repeat (first | assumption | exact mup_s _ _ _ | rw [mup_n _ _ (by omega)])) rfl rfl rfl (Nat.le_of_ble_eq_true rfl) rfl ?_
          refine mj_iinc (ls' := [(1, _), (2, _), (0, _)]) 1 dX0_freeAssignedRiders_34 rfl (nI_s _) (Nat.le_of_ble_eq_true rfl) rfl ?_
          refine mj_goto 2 dX0_freeAssignedRiders_37 (by decide) ?_
          first
            | exact mj_ls [0, 2] rfl (ih (k + 1) _ _ (by omega) (by rw [b_freeX_same B k c_21]; exact b9) o rfl)
            | exact mj_ls [0, 2] rfl (ih (k + 1) _ _ (by omega) (by rw [← b_freeX_go B k]; exact b9.setX (by omega) (by unfold x_free; rw [if_pos c_21]; exact mup_s _ _ _) ((Off.m0 _ (by omega) (by omega)).m _ (by omega) (by omega))) ((o.m _ (by omega) (by omega)).m _ (by omega) (by omega)) rfl)
  refine mj_iconst (v := 0) dX0_freeAssignedRiders_0 rfl ?_
  refine mj_istore_n (ls' := [(1, _), (0, _)]) dX0_freeAssignedRiders_1 (Nat.le_of_ble_eq_true rfl) rfl ?_
  exact mj_ls [0, 1] rfl (loop1 (bnr B) 0 h _ (by omega) b9 Off.rf rfl)
