def r_marg (R : RS) (q : Int32) : Int32 := r_len R - r_lw R q
def r_dir (R : RS) : Int32 := r_step R 0 (rn R - 1)
def r_det (R : RS) : Int32 := r_len R - r_dir R
set_option maxRecDepth 100000 in
set_option maxHeartbeats 4000000 in
theorem cn_X6_marginalLength {K : KX} {n : Nat} {h : MH} {a : Nat} {R : RS} (r : Rt h a R) {q : Int32} (h2 : 1 ≤ rn R) : Con K mX6_marginalLength [.ref a, .int q] 0 0 n h (Ret (some (.int (r_marg R q))) n h) := by
  obtain ⟨r0, r1, r2, r3, r4, r5⟩ := r
  refine Con.of (by decide +kernel) (Nat.le_of_ble_eq_true rfl) ?_
  refine mj_aload_n 0 dX6_marginalLength_0 rfl ?_
  refine mj_cV1 [] (RX6, TX6, 5) dX6_marginalLength_1 cwX6_length lkX6_62 (by repeat (first | assumption | exact mup_s _ _ _ | rw [mup_n _ _ (by omega)])) rfl rfl rfl rfl (cn_X6_length ⟨r0, r1, r2, r3, r4, r5⟩ (by omega)) ⟨Nat.le_of_ble_eq_true rfl, Nat.le_of_ble_eq_true rfl, Nat.le_of_ble_eq_true rfl, Nat.le_of_ble_eq_true rfl, Nat.le_of_ble_eq_true rfl⟩ (fun h' e' => ?_)
  subst e'
  refine mj_aload_n 0 dX6_marginalLength_4 rfl ?_
  refine mj_iload_n 1 dX6_marginalLength_5 rfl ?_
  refine mj_cV1 [_] (RX6, TX6, 5) dX6_marginalLength_6 cwX6_lengthWithout lkX6_65 (by repeat (first | assumption | exact mup_s _ _ _ | rw [mup_n _ _ (by omega)])) rfl rfl rfl rfl (cn_X6_lengthWithout ⟨r0, r1, r2, r3, r4, r5⟩ (by omega)) ⟨Nat.le_of_ble_eq_true rfl, Nat.le_of_ble_eq_true rfl, Nat.le_of_ble_eq_true rfl, Nat.le_of_ble_eq_true rfl, Nat.le_of_ble_eq_true rfl⟩ (fun h' e' => ?_)
  subst e'
  refine mj_isub dX6_marginalLength_9 ?_
  exact mj_iret dX6_marginalLength_10 rfl (Nat.le_of_ble_eq_true rfl) (Nat.le_of_ble_eq_true rfl) ⟨rfl, rfl, rfl⟩
set_option maxRecDepth 100000 in
set_option maxHeartbeats 4000000 in
theorem cn_X6_directLength {K : KX} {n : Nat} {h : MH} {a : Nat} {R : RS} (r : Rt h a R) (h2 : 1 ≤ rn R) : Con K mX6_directLength [.ref a] 0 0 n h (Ret (some (.int (r_dir R))) n h) := by
  obtain ⟨r0, r1, r2, r3, r4, r5⟩ := r
  refine Con.of (by decide +kernel) (Nat.le_of_ble_eq_true rfl) ?_
  refine mj_aload_n 0 dX6_directLength_0 rfl ?_
  refine mj_iconst (v := 0) dX6_directLength_1 rfl ?_
  refine mj_aload_n 0 dX6_directLength_2 rfl ?_
  refine mj_getf dX6_directLength_3 fgX6_32 (by repeat (first | assumption | exact mup_s _ _ _ | rw [mup_n _ _ (by omega)])) rfl ?_
  refine mj_iconst (v := 1) dX6_directLength_6 rfl ?_
  refine mj_isub dX6_directLength_7 ?_
  refine mj_eq (show nI (rn R) - 1 = nI (rn R - 1) from pk_sub (by omega)) ?_
  refine mj_cV1 [_, _] (RX6, TX6, 5) dX6_directLength_8 cwX6_step lkX6_54 (by repeat (first | assumption | exact mup_s _ _ _ | rw [mup_n _ _ (by omega)])) rfl rfl rfl rfl (cn_X6_step ⟨r0, r1, r2, r3, r4, r5⟩ (show (0 : Int32).toInt = ((0 : Nat) : Int) from rfl) (by omega) (ixn (by omega)) (by omega)) ⟨Nat.le_of_ble_eq_true rfl, Nat.le_of_ble_eq_true rfl, Nat.le_of_ble_eq_true rfl, Nat.le_of_ble_eq_true rfl, Nat.le_of_ble_eq_true rfl⟩ (fun h' e' => ?_)
  subst e'
  exact mj_iret dX6_directLength_11 rfl (Nat.le_of_ble_eq_true rfl) (Nat.le_of_ble_eq_true rfl) ⟨rfl, rfl, rfl⟩
set_option maxRecDepth 100000 in
set_option maxHeartbeats 4000000 in
theorem cn_X6_detourLength {K : KX} {n : Nat} {h : MH} {a : Nat} {R : RS} (r : Rt h a R) (h2 : 1 ≤ rn R) : Con K mX6_detourLength [.ref a] 0 0 n h (Ret (some (.int (r_det R))) n h) := by
  obtain ⟨r0, r1, r2, r3, r4, r5⟩ := r
  refine Con.of (by decide +kernel) (Nat.le_of_ble_eq_true rfl) ?_
  refine mj_aload_n 0 dX6_detourLength_0 rfl ?_
  refine mj_cV1 [] (RX6, TX6, 5) dX6_detourLength_1 cwX6_length lkX6_62 (by repeat (first | assumption | exact mup_s _ _ _ | rw [mup_n _ _ (by omega)])) rfl rfl rfl rfl (cn_X6_length ⟨r0, r1, r2, r3, r4, r5⟩ (by omega)) ⟨Nat.le_of_ble_eq_true rfl, Nat.le_of_ble_eq_true rfl, Nat.le_of_ble_eq_true rfl, Nat.le_of_ble_eq_true rfl, Nat.le_of_ble_eq_true rfl⟩ (fun h' e' => ?_)
  subst e'
  refine mj_aload_n 0 dX6_detourLength_4 rfl ?_
  refine mj_iconst (v := 0) dX6_detourLength_5 rfl ?_
  refine mj_aload_n 0 dX6_detourLength_6 rfl ?_
  refine mj_getf dX6_detourLength_7 fgX6_32 (by repeat (first | assumption | exact mup_s _ _ _ | rw [mup_n _ _ (by omega)])) rfl ?_
  refine mj_iconst (v := 1) dX6_detourLength_10 rfl ?_
  refine mj_isub dX6_detourLength_11 ?_
  refine mj_eq (show nI (rn R) - 1 = nI (rn R - 1) from pk_sub (by omega)) ?_
  refine mj_cV1 [_, _] (RX6, TX6, 5) dX6_detourLength_12 cwX6_step lkX6_54 (by repeat (first | assumption | exact mup_s _ _ _ | rw [mup_n _ _ (by omega)])) rfl rfl rfl rfl (cn_X6_step ⟨r0, r1, r2, r3, r4, r5⟩ (show (0 : Int32).toInt = ((0 : Nat) : Int) from rfl) (by omega) (ixn (by omega)) (by omega)) ⟨Nat.le_of_ble_eq_true rfl, Nat.le_of_ble_eq_true rfl, Nat.le_of_ble_eq_true rfl, Nat.le_of_ble_eq_true rfl, Nat.le_of_ble_eq_true rfl⟩ (fun h' e' => ?_)
  subst e'
  refine mj_isub dX6_detourLength_15 ?_
  exact mj_iret dX6_detourLength_16 rfl (Nat.le_of_ble_eq_true rfl) (Nat.le_of_ble_eq_true rfl) ⟨rfl, rfl, rfl⟩
def r_arr (R : RS) (w : Int32) : Nat → Int32
  | 0 => w
  | k + 1 => r_lv R k (r_arr R w k) + r_step R k (k + 1)
set_option maxRecDepth 100000 in
set_option maxHeartbeats 4000000 in
theorem cn_X6_arrivalAt {K : KX} {n : Nat} {h : MH} {a : Nat} {R : RS} (r : Rt h a R) {j : Nat} {w : Int32} (hj : j < rn R) : Con K mX6_arrivalAt [.ref a, .int (nI j), .int w] 0 0 n h (Ret (some (.int (r_arr R w j))) n h) := by
  obtain ⟨r0, r1, r2, r3, r4, r5⟩ := r
  refine Con.of (by decide +kernel) (Nat.le_of_ble_eq_true rfl) ?_
  have loop : ∀ (f : Nat) (k : Nat), k + f = j → GG (K, mX6_arrivalAt, 0, 0, Ret (some (.int (r_arr R w j))) n h) 0 0 5 [(4, .int (nI (k + 1))), (3, .int (r_arr R w k)), (0, .ref a), (1, .int (nI j)), (2, .int w)] [] n h := by
    intro f
    induction f with
    | zero =>
      intro k hk
      refine mj_iload 0 dX6_arrivalAt_5 rfl ?_
      refine mj_iload_n 3 dX6_arrivalAt_7 rfl ?_
      refine mj_icmp_gt 47 dX6_arrivalAt_8 (by decide) (fun c_8 => ?_) (fun c_8 => ?_)
      · refine mj_iload_n 1 dX6_arrivalAt_47 rfl ?_
        exact mj_iret dX6_arrivalAt_48 rfl (Nat.le_of_ble_eq_true rfl) (Nat.le_of_ble_eq_true rfl) ⟨(by rw [show j = k by omega]), rfl, rfl⟩
      · exact absurd (nI_lt (by omega) (by omega)) c_8
    | succ f ih =>
      intro k hk
      refine mj_iload 0 dX6_arrivalAt_5 rfl ?_
      refine mj_iload_n 3 dX6_arrivalAt_7 rfl ?_
      refine mj_icmp_gt 47 dX6_arrivalAt_8 (by decide) (fun c_8 => ?_) (fun c_8 => ?_)
      · exact absurd c_8 (nI_nlt (by omega) (by omega))
      · refine mj_iload 0 dX6_arrivalAt_11 rfl ?_
        refine mj_aload_n 2 dX6_arrivalAt_13 rfl ?_
        refine mj_getf dX6_arrivalAt_14 fgX6_32 (by repeat (first | assumption | exact mup_s _ _ _ | rw [mup_n _ _ (by omega)])) rfl ?_
        refine mj_icmp_ge 47 dX6_arrivalAt_17 (by decide) (fun c_17 => ?_) (fun c_17 => ?_)
        · exact absurd c_17 (nI_ge (by omega) (by omega))
        · refine mj_aload_n 2 dX6_arrivalAt_20 rfl ?_
          refine mj_iload 0 dX6_arrivalAt_21 rfl ?_
          refine mj_iconst (v := 1) dX6_arrivalAt_23 rfl ?_
          refine mj_isub dX6_arrivalAt_24 ?_
          refine mj_eq (nI_p _) ?_
          refine mj_iload_n 1 dX6_arrivalAt_25 rfl ?_
          refine mj_cV1 [_, _] (RX6, TX6, 5) dX6_arrivalAt_26 cwX6_leaving lkX6_69 (by repeat (first | assumption | exact mup_s _ _ _ | rw [mup_n _ _ (by omega)])) rfl rfl rfl rfl (cn_X6_leaving ⟨r0, r1, r2, r3, r4, r5⟩ (ixn (by omega)) (by omega)) ⟨Nat.le_of_ble_eq_true rfl, Nat.le_of_ble_eq_true rfl, Nat.le_of_ble_eq_true rfl, Nat.le_of_ble_eq_true rfl, Nat.le_of_ble_eq_true rfl⟩ (fun h' e' => ?_)
          subst e'
          refine mj_aload_n 2 dX6_arrivalAt_29 rfl ?_
          refine mj_iload 0 dX6_arrivalAt_30 rfl ?_
          refine mj_iconst (v := 1) dX6_arrivalAt_32 rfl ?_
          refine mj_isub dX6_arrivalAt_33 ?_
          refine mj_eq (nI_p _) ?_
          refine mj_iload 0 dX6_arrivalAt_34 rfl ?_
          refine mj_cV1 [_, _] (RX6, TX6, 5) dX6_arrivalAt_36 cwX6_step lkX6_54 (by repeat (first | assumption | exact mup_s _ _ _ | rw [mup_n _ _ (by omega)])) rfl rfl rfl rfl (cn_X6_step ⟨r0, r1, r2, r3, r4, r5⟩ (ixn (by omega)) (by omega) (ixn (by omega)) (by omega)) ⟨Nat.le_of_ble_eq_true rfl, Nat.le_of_ble_eq_true rfl, Nat.le_of_ble_eq_true rfl, Nat.le_of_ble_eq_true rfl, Nat.le_of_ble_eq_true rfl⟩ (fun h' e' => ?_)
          subst e'
          refine mj_iadd dX6_arrivalAt_39 ?_
          refine mj_istore_n (ls' := [(3, _), (4, _), (0, _), (1, _), (2, _)]) dX6_arrivalAt_40 (Nat.le_of_ble_eq_true rfl) rfl ?_
          refine mj_iinc (ls' := [(4, _), (3, _), (0, _), (1, _), (2, _)]) 1 dX6_arrivalAt_41 rfl (nI_s _) (Nat.le_of_ble_eq_true rfl) rfl ?_
          refine mj_goto 5 dX6_arrivalAt_44 (by decide) ?_
          exact mj_ls [0, 1, 2, 3, 4] rfl (ih (k + 1) (by omega))
  refine mj_iload_n 2 dX6_arrivalAt_0 rfl ?_
  refine mj_istore_n (ls' := [(3, _), (0, _), (1, _), (2, _)]) dX6_arrivalAt_1 (Nat.le_of_ble_eq_true rfl) rfl ?_
  refine mj_iconst (v := 1) dX6_arrivalAt_2 rfl ?_
  refine mj_istore (ls' := [(4, _), (3, _), (0, _), (1, _), (2, _)]) dX6_arrivalAt_3 (Nat.le_of_ble_eq_true rfl) rfl ?_
  exact mj_ls [0, 1, 2, 3, 4] rfl (loop j 0 (by omega))
def r_keep (R : RS) (s : Int32) : Nat → Nat → Int32 → Int32 → Bool
  | 0, _, _, _ => true
  | f + 1, k, w, ic => if r_pick R (k + 1) then (if s < ic + 1 then false else r_keep R s f (k + 1) (r_lv R k w + r_step R k (k + 1)) (ic + 1))
    else if r_drop R (k + 1) then (if rt R (k + 1) < r_lv R k w + r_step R k (k + 1) then false else if s < ic + -1 then false else r_keep R s f (k + 1) (r_lv R k w + r_step R k (k + 1)) (ic + -1))
    else if s < ic then false else r_keep R s f (k + 1) (r_lv R k w + r_step R k (k + 1)) ic
def r_ok (R : RS) (s w : Int32) : Bool := r_keep R s (rn R - 1) 0 w 0
set_option maxRecDepth 100000 in
set_option maxHeartbeats 4000000 in
theorem cn_X6_keepsSeatsAndDeadlines {K : KX} {n : Nat} {h : MH} {a : Nat} {R : RS} (r : Rt h a R) {s w : Int32} (h2 : 1 ≤ rn R) : Con K mX6_keepsSeatsAndDeadlines [.ref a, .int s, .int w] 0 0 n h (Ret (some (.int (bI (r_ok R s w)))) n h) := by
  obtain ⟨r0, r1, r2, r3, r4, r5⟩ := r
  refine Con.of (by decide +kernel) (Nat.le_of_ble_eq_true rfl) ?_
  have loop : ∀ (f : Nat) (k : Nat) (v ic : Int32), k + f + 1 = rn R → r_ok R s w = r_keep R s f k v ic → GG (K, mX6_keepsSeatsAndDeadlines, 0, 0, Ret (some (.int (bI (r_ok R s w)))) n h) 0 0 8 [(5, .int (nI (k + 1))), (4, .int ic), (3, .int v), (0, .ref a), (1, .int s), (2, .int w)] [] n h := by
    intro f
    induction f with
    | zero =>
      intro k v ic hk he
      refine mj_iload 0 dX6_keepsSeatsAndDeadlines_8 rfl ?_
      refine mj_aload_n 3 dX6_keepsSeatsAndDeadlines_10 rfl ?_
      refine mj_getf dX6_keepsSeatsAndDeadlines_11 fgX6_32 (by repeat (first | assumption | exact mup_s _ _ _ | rw [mup_n _ _ (by omega)])) rfl ?_
      refine mj_icmp_ge 92 dX6_keepsSeatsAndDeadlines_14 (by decide) (fun c_14 => ?_) (fun c_14 => ?_)
      · refine mj_iconst (v := 1) dX6_keepsSeatsAndDeadlines_92 rfl ?_
        exact mj_zret dX6_keepsSeatsAndDeadlines_93 rfl (by first | exact Or.inl rfl | exact Or.inr rfl) (Nat.le_of_ble_eq_true rfl) (Nat.le_of_ble_eq_true rfl) ⟨(by rw [he]; rfl), rfl, rfl⟩
      · exact absurd (nI_le (by omega) (by omega)) c_14
    | succ f ih =>
      intro k v ic hk he
      refine mj_iload 0 dX6_keepsSeatsAndDeadlines_8 rfl ?_
      refine mj_aload_n 3 dX6_keepsSeatsAndDeadlines_10 rfl ?_
      refine mj_getf dX6_keepsSeatsAndDeadlines_11 fgX6_32 (by repeat (first | assumption | exact mup_s _ _ _ | rw [mup_n _ _ (by omega)])) rfl ?_
      refine mj_icmp_ge 92 dX6_keepsSeatsAndDeadlines_14 (by decide) (fun c_14 => ?_) (fun c_14 => ?_)
      · exact absurd c_14 (nI_ge (by omega) (by omega))
      · refine mj_aload_n 3 dX6_keepsSeatsAndDeadlines_17 rfl ?_
        refine mj_iload 0 dX6_keepsSeatsAndDeadlines_18 rfl ?_
        refine mj_iconst (v := 1) dX6_keepsSeatsAndDeadlines_20 rfl ?_
        refine mj_isub dX6_keepsSeatsAndDeadlines_21 ?_
        refine mj_eq (nI_p _) ?_
        refine mj_iload_n 2 dX6_keepsSeatsAndDeadlines_22 rfl ?_
        refine mj_cV1 [_, _] (RX6, TX6, 5) dX6_keepsSeatsAndDeadlines_23 cwX6_leaving lkX6_69 (by repeat (first | assumption | exact mup_s _ _ _ | rw [mup_n _ _ (by omega)])) rfl rfl rfl rfl (cn_X6_leaving ⟨r0, r1, r2, r3, r4, r5⟩ (ixn (by omega)) (by omega)) ⟨Nat.le_of_ble_eq_true rfl, Nat.le_of_ble_eq_true rfl, Nat.le_of_ble_eq_true rfl, Nat.le_of_ble_eq_true rfl, Nat.le_of_ble_eq_true rfl⟩ (fun h' e' => ?_)
        subst e'
        refine mj_aload_n 3 dX6_keepsSeatsAndDeadlines_26 rfl ?_
        refine mj_iload 0 dX6_keepsSeatsAndDeadlines_27 rfl ?_
        refine mj_iconst (v := 1) dX6_keepsSeatsAndDeadlines_29 rfl ?_
        refine mj_isub dX6_keepsSeatsAndDeadlines_30 ?_
        refine mj_eq (nI_p _) ?_
        refine mj_iload 0 dX6_keepsSeatsAndDeadlines_31 rfl ?_
        refine mj_cV1 [_, _] (RX6, TX6, 5) dX6_keepsSeatsAndDeadlines_33 cwX6_step lkX6_54 (by repeat (first | assumption | exact mup_s _ _ _ | rw [mup_n _ _ (by omega)])) rfl rfl rfl rfl (cn_X6_step ⟨r0, r1, r2, r3, r4, r5⟩ (ixn (by omega)) (by omega) (ixn (by omega)) (by omega)) ⟨Nat.le_of_ble_eq_true rfl, Nat.le_of_ble_eq_true rfl, Nat.le_of_ble_eq_true rfl, Nat.le_of_ble_eq_true rfl, Nat.le_of_ble_eq_true rfl⟩ (fun h' e' => ?_)
        subst e'
        refine mj_iadd dX6_keepsSeatsAndDeadlines_36 ?_
        refine mj_istore_n (ls' := [(3, _), (5, _), (4, _), (0, _), (1, _), (2, _)]) dX6_keepsSeatsAndDeadlines_37 (Nat.le_of_ble_eq_true rfl) rfl ?_
        refine mj_aload_n 3 dX6_keepsSeatsAndDeadlines_38 rfl ?_
        refine mj_iload 1 dX6_keepsSeatsAndDeadlines_39 rfl ?_
        refine mj_cV1 [_] (RX6, TX6, 5) dX6_keepsSeatsAndDeadlines_41 cwX6_isPickup lkX6_42 (by repeat (first | assumption | exact mup_s _ _ _ | rw [mup_n _ _ (by omega)])) rfl rfl rfl rfl (cn_X6_isPickup ⟨r0, r1, r2, r3, r4, r5⟩ (ixn (by omega)) (by omega)) ⟨Nat.le_of_ble_eq_true rfl, Nat.le_of_ble_eq_true rfl, Nat.le_of_ble_eq_true rfl, Nat.le_of_ble_eq_true rfl, Nat.le_of_ble_eq_true rfl⟩ (fun h' e' => ?_)
        subst e'
        refine mj_if_eq 53 dX6_keepsSeatsAndDeadlines_44 (by decide) (fun c_44 => ?_) (fun c_44 => ?_)
        · have e5 := bI_0.mp c_44
          refine mj_aload_n 3 dX6_keepsSeatsAndDeadlines_53 rfl ?_
          refine mj_iload 1 dX6_keepsSeatsAndDeadlines_54 rfl ?_
          refine mj_cV1 [_] (RX6, TX6, 5) dX6_keepsSeatsAndDeadlines_56 cwX6_isDrop lkX6_77 (by repeat (first | assumption | exact mup_s _ _ _ | rw [mup_n _ _ (by omega)])) rfl rfl rfl rfl (cn_X6_isDrop ⟨r0, r1, r2, r3, r4, r5⟩ (ixn (by omega)) (by omega)) ⟨Nat.le_of_ble_eq_true rfl, Nat.le_of_ble_eq_true rfl, Nat.le_of_ble_eq_true rfl, Nat.le_of_ble_eq_true rfl, Nat.le_of_ble_eq_true rfl⟩ (fun h' e' => ?_)
          subst e'
          refine mj_if_eq 78 dX6_keepsSeatsAndDeadlines_59 (by decide) (fun c_59 => ?_) (fun c_59 => ?_)
          · have e6 := bI_0.mp c_59
            refine mj_iload 2 dX6_keepsSeatsAndDeadlines_78 rfl ?_
            refine mj_iload_n 4 dX6_keepsSeatsAndDeadlines_80 rfl ?_
            refine mj_icmp_le 86 dX6_keepsSeatsAndDeadlines_81 (by decide) (fun c_81 => ?_) (fun c_81 => ?_)
            · refine mj_iinc (ls' := [(5, _), (3, _), (4, _), (0, _), (1, _), (2, _)]) 1 dX6_keepsSeatsAndDeadlines_86 rfl (nI_s _) (Nat.le_of_ble_eq_true rfl) rfl ?_
              refine mj_goto 8 dX6_keepsSeatsAndDeadlines_89 (by decide) ?_
              exact mj_ls [0, 2, 1, 3, 4, 5] rfl (ih (k + 1) _ _ (by omega) (by rw [he]; simp only [r_keep]; simp [*, Int32.not_lt.mpr]))
            · refine mj_iconst (v := 0) dX6_keepsSeatsAndDeadlines_84 rfl ?_
              exact mj_zret dX6_keepsSeatsAndDeadlines_85 rfl (by first | exact Or.inl rfl | exact Or.inr rfl) (Nat.le_of_ble_eq_true rfl) (Nat.le_of_ble_eq_true rfl) ⟨(by rw [he]; simp only [r_keep]; simp [*, Int32.not_lt.mpr, bI]), rfl, rfl⟩
          · have e6 := bI_n0.mp c_59
            refine mj_iinc (v := _ + (-1)) (ls' := [(4, _), (3, _), (5, _), (0, _), (1, _), (2, _)]) 2 dX6_keepsSeatsAndDeadlines_62 rfl rfl (Nat.le_of_ble_eq_true rfl) rfl ?_
            refine mj_iload_n 1 dX6_keepsSeatsAndDeadlines_65 rfl ?_
            refine mj_aload_n 3 dX6_keepsSeatsAndDeadlines_66 rfl ?_
            refine mj_getf dX6_keepsSeatsAndDeadlines_67 fgX6_21 (by repeat (first | assumption | exact mup_s _ _ _ | rw [mup_n _ _ (by omega)])) rfl ?_
            refine mj_iload 2 dX6_keepsSeatsAndDeadlines_70 rfl ?_
            refine mj_iald (by repeat (first | assumption | exact mup_s _ _ _ | rw [mup_n _ _ (by omega)])) (by first | assumption | rfl | exact ixn (by omega)) (by first | assumption | decide | omega) dX6_keepsSeatsAndDeadlines_72 ?_
            refine mj_icmp_le 78 dX6_keepsSeatsAndDeadlines_73 (by decide) (fun c_73 => ?_) (fun c_73 => ?_)
            · refine mj_iload 0 dX6_keepsSeatsAndDeadlines_78 rfl ?_
              refine mj_iload_n 4 dX6_keepsSeatsAndDeadlines_80 rfl ?_
              refine mj_icmp_le 86 dX6_keepsSeatsAndDeadlines_81 (by decide) (fun c_81 => ?_) (fun c_81 => ?_)
              · refine mj_iinc (ls' := [(5, _), (4, _), (3, _), (0, _), (1, _), (2, _)]) 2 dX6_keepsSeatsAndDeadlines_86 rfl (nI_s _) (Nat.le_of_ble_eq_true rfl) rfl ?_
                refine mj_goto 8 dX6_keepsSeatsAndDeadlines_89 (by decide) ?_
                exact mj_ls [0, 1, 2, 3, 4, 5] rfl (ih (k + 1) _ _ (by omega) (by rw [he]; simp only [r_keep]; simp [*, Int32.not_lt.mpr]))
              · refine mj_iconst (v := 0) dX6_keepsSeatsAndDeadlines_84 rfl ?_
                exact mj_zret dX6_keepsSeatsAndDeadlines_85 rfl (by first | exact Or.inl rfl | exact Or.inr rfl) (Nat.le_of_ble_eq_true rfl) (Nat.le_of_ble_eq_true rfl) ⟨(by rw [he]; simp only [r_keep]; simp [*, Int32.not_lt.mpr, bI]), rfl, rfl⟩
            · refine mj_iconst (v := 0) dX6_keepsSeatsAndDeadlines_76 rfl ?_
              exact mj_zret dX6_keepsSeatsAndDeadlines_77 rfl (by first | exact Or.inl rfl | exact Or.inr rfl) (Nat.le_of_ble_eq_true rfl) (Nat.le_of_ble_eq_true rfl) ⟨(by rw [he]; simp only [r_keep]; simp [*, Int32.not_lt.mpr, bI]), rfl, rfl⟩
        · have e5 := bI_n0.mp c_44
          refine mj_iinc (v := _ + (1)) (ls' := [(4, _), (3, _), (5, _), (0, _), (1, _), (2, _)]) 2 dX6_keepsSeatsAndDeadlines_47 rfl rfl (Nat.le_of_ble_eq_true rfl) rfl ?_
          refine mj_goto 78 dX6_keepsSeatsAndDeadlines_50 (by decide) ?_
          refine mj_iload 0 dX6_keepsSeatsAndDeadlines_78 rfl ?_
          refine mj_iload_n 4 dX6_keepsSeatsAndDeadlines_80 rfl ?_
          refine mj_icmp_le 86 dX6_keepsSeatsAndDeadlines_81 (by decide) (fun c_81 => ?_) (fun c_81 => ?_)
          · refine mj_iinc (ls' := [(5, _), (4, _), (3, _), (0, _), (1, _), (2, _)]) 2 dX6_keepsSeatsAndDeadlines_86 rfl (nI_s _) (Nat.le_of_ble_eq_true rfl) rfl ?_
            refine mj_goto 8 dX6_keepsSeatsAndDeadlines_89 (by decide) ?_
            exact mj_ls [0, 1, 2, 3, 4, 5] rfl (ih (k + 1) _ _ (by omega) (by rw [he]; simp only [r_keep]; simp [*, Int32.not_lt.mpr]))
          · refine mj_iconst (v := 0) dX6_keepsSeatsAndDeadlines_84 rfl ?_
            exact mj_zret dX6_keepsSeatsAndDeadlines_85 rfl (by first | exact Or.inl rfl | exact Or.inr rfl) (Nat.le_of_ble_eq_true rfl) (Nat.le_of_ble_eq_true rfl) ⟨(by rw [he]; simp only [r_keep]; simp [*, Int32.not_lt.mpr, bI]), rfl, rfl⟩
  refine mj_iload_n 2 dX6_keepsSeatsAndDeadlines_0 rfl ?_
  refine mj_istore_n (ls' := [(3, _), (0, _), (1, _), (2, _)]) dX6_keepsSeatsAndDeadlines_1 (Nat.le_of_ble_eq_true rfl) rfl ?_
  refine mj_iconst (v := 0) dX6_keepsSeatsAndDeadlines_2 rfl ?_
  refine mj_istore (ls' := [(4, _), (3, _), (0, _), (1, _), (2, _)]) dX6_keepsSeatsAndDeadlines_3 (Nat.le_of_ble_eq_true rfl) rfl ?_
  refine mj_iconst (v := 1) dX6_keepsSeatsAndDeadlines_5 rfl ?_
  refine mj_istore (ls' := [(5, _), (4, _), (3, _), (0, _), (1, _), (2, _)]) dX6_keepsSeatsAndDeadlines_6 (Nat.le_of_ble_eq_true rfl) rfl ?_
  exact mj_ls [0, 1, 2, 3, 4, 5] rfl (loop (rn R - 1) 0 w 0 (by omega) rfl)
set_option maxRecDepth 100000 in
set_option maxHeartbeats 4000000 in
theorem cn_X6_toPlace {K : KX} {n : Nat} {h : MH} {a : Nat} {R : RS} (r : Rt h a R) {j : Nat} {i u v : Int32} (hi : i.toInt = (j : Int)) (hj : j < 42) : Con K mX6_toPlace [.ref a, .int i, .int u, .int v] 0 0 n h (Ret (some (.int (k_dist (rx R j) (ry R j) u v))) n h) := by
  obtain ⟨r0, r1, r2, r3, r4, r5⟩ := r
  refine Con.of (by decide +kernel) (Nat.le_of_ble_eq_true rfl) ?_
  refine mj_aload_n 0 dX6_toPlace_0 rfl ?_
  refine mj_getf dX6_toPlace_1 fgX6_15 (by repeat (first | assumption | exact mup_s _ _ _ | rw [mup_n _ _ (by omega)])) rfl ?_
  refine mj_iload_n 1 dX6_toPlace_4 rfl ?_
  refine mj_iald (by repeat (first | assumption | exact mup_s _ _ _ | rw [mup_n _ _ (by omega)])) (by first | assumption | rfl | exact ixn (by omega)) (by first | assumption | decide | omega) dX6_toPlace_5 ?_
  refine mj_aload_n 0 dX6_toPlace_6 rfl ?_
  refine mj_getf dX6_toPlace_7 fgX6_18 (by repeat (first | assumption | exact mup_s _ _ _ | rw [mup_n _ _ (by omega)])) rfl ?_
  refine mj_iload_n 1 dX6_toPlace_10 rfl ?_
  refine mj_iald (by repeat (first | assumption | exact mup_s _ _ _ | rw [mup_n _ _ (by omega)])) (by first | assumption | rfl | exact ixn (by omega)) (by first | assumption | decide | omega) dX6_toPlace_11 ?_
  refine mj_iload_n 2 dX6_toPlace_12 rfl ?_
  refine mj_iload_n 3 dX6_toPlace_13 rfl ?_
  refine mj_cS1 [_, _, _, _] dX6_toPlace_14 cwX10_distance lkX6_50 rfl (cn_X10_distance _ _ _ _) ⟨Nat.le_of_ble_eq_true rfl, Nat.le_of_ble_eq_true rfl, Nat.le_of_ble_eq_true rfl, Nat.le_of_ble_eq_true rfl, Nat.le_of_ble_eq_true rfl⟩ (fun h' e' => ?_)
  subst e'
  exact mj_iret dX6_toPlace_17 rfl (Nat.le_of_ble_eq_true rfl) (Nat.le_of_ble_eq_true rfl) ⟨rfl, rfl, rfl⟩
