/-- every call keeps J, and class and reference answer alike -/
def AllS (K : KX) (c m o : Nat) (J : Nat → MH → Prop) : Prop :=
  (∀ (n : Nat) (h : MH) (p1 p2 p3 p4 : Int32), J n h → StepI K m o mL_addDriver [.ref c, .int p1, .int p2, .int p3, .int p4, .ref o] mX11_addDriver [.ref m, .int p1, .int p2, .int p3, .int p4] J n h) ∧
  (∀ (n : Nat) (h : MH) (p1 p2 p3 p4 p5 : Int32), J n h → StepI K m o mL_setTrip [.ref c, .int p1, .int p2, .int p3, .int p4, .int p5, .ref o] mX11_setTrip [.ref m, .int p1, .int p2, .int p3, .int p4, .int p5] J n h) ∧
  (∀ (n : Nat) (h : MH) (p1 p2 p3 p4 p5 p6 : Int32), J n h → StepI K m o mL_addRider [.ref c, .int p1, .int p2, .int p3, .int p4, .int p5, .int p6, .ref o] mX11_addRider [.ref m, .int p1, .int p2, .int p3, .int p4, .int p5, .int p6] J n h) ∧
  (∀ (n : Nat) (h : MH), J n h → StepD K c m mX10_driverCount [.ref c] mX11_driverCount [.ref m] J n h) ∧
  (∀ (n : Nat) (h : MH), J n h → StepD K c m mX10_riderCount [.ref c] mX11_riderCount [.ref m] J n h) ∧
  (∀ (n : Nat) (h : MH) (p1 : Int32), J n h → StepZ K m o mL_isDone [.ref c, .int p1, .ref o] mX11_isDone [.ref m, .int p1] J n h) ∧
  (∀ (n : Nat) (h : MH) (p1 : Int32), J n h → StepI K m o mL_riderState [.ref c, .int p1, .ref o] mX11_riderState [.ref m, .int p1] J n h) ∧
  (∀ (n : Nat) (h : MH) (p1 : Int32), J n h → StepI K m o mL_driverOf [.ref c, .int p1, .ref o] mX11_driverOf [.ref m, .int p1] J n h) ∧
  (∀ (n : Nat) (h : MH) (p1 : Int32), J n h → StepI K m o mL_ridersOf [.ref c, .int p1, .ref o] mX11_ridersOf [.ref m, .int p1] J n h) ∧
  (∀ (n : Nat) (h : MH) (p1 : Int32), J n h → StepI K m o mL_setPenalty [.ref c, .int p1, .ref o] mX11_setPenalty [.ref m, .int p1] J n h) ∧
  (∀ (n : Nat) (h : MH) (p1 : Int32), J n h → StepI K m o mL_stopCount [.ref c, .int p1, .ref o] mX11_stopCount [.ref m, .int p1] J n h) ∧
  (∀ (n : Nat) (h : MH) (p1 p2 : Int32), J n h → StepI K m o mL_stopRider [.ref c, .int p1, .int p2, .ref o] mX11_stopRider [.ref m, .int p1, .int p2] J n h) ∧
  (∀ (n : Nat) (h : MH) (p1 p2 : Int32), J n h → StepI K m o mL_arrival [.ref c, .int p1, .int p2, .ref o] mX11_arrival [.ref m, .int p1, .int p2] J n h) ∧
  (∀ (n : Nat) (h : MH) (p1 : Int32), J n h → StepI K m o mL_routeLength [.ref c, .int p1, .ref o] mX11_routeLength [.ref m, .int p1] J n h) ∧
  (∀ (n : Nat) (h : MH) (p1 : Int32), J n h → StepI K m o mL_detour [.ref c, .int p1, .ref o] mX11_detour [.ref m, .int p1] J n h) ∧
  (∀ (n : Nat) (h : MH) (p1 p2 : Int32), J n h → StepI K m o mL_extra [.ref c, .int p1, .int p2, .ref o] mX11_extra [.ref m, .int p1, .int p2] J n h) ∧
  (∀ (n : Nat) (h : MH) (p1 p2 : Int32), J n h → StepI K m o mL_soloExtra [.ref c, .int p1, .int p2, .ref o] mX11_soloExtra [.ref m, .int p1, .int p2] J n h) ∧
  (∀ (n : Nat) (h : MH) (p1 : Int32), J n h → StepI K m o mL_bestDriver [.ref c, .int p1, .ref o] mX11_bestDriver [.ref m, .int p1] J n h) ∧
  (∀ (n : Nat) (h : MH) (p1 p2 : Int32), J n h → StepI K m o mL_assign [.ref c, .int p1, .int p2, .ref o] mX11_assign [.ref m, .int p1, .int p2] J n h) ∧
  (∀ (n : Nat) (h : MH) (p1 : Int32), J n h → StepI K m o mL_unassign [.ref c, .int p1, .ref o] mX11_unassign [.ref m, .int p1] J n h) ∧
  (∀ (n : Nat) (h : MH), J n h → StepD K c m mX10_match [.ref c] mX11_match [.ref m] J n h) ∧
  (∀ (n : Nat) (h : MH) (p1 p2 : Int32), J n h → StepI K m o mL_riderChoice [.ref c, .int p1, .int p2, .ref o] mX11_riderChoice [.ref m, .int p1, .int p2] J n h) ∧
  (∀ (n : Nat) (h : MH) (p1 p2 : Int32), J n h → StepI K m o mL_driverChoice [.ref c, .int p1, .int p2, .ref o] mX11_driverChoice [.ref m, .int p1, .int p2] J n h) ∧
  (∀ (n : Nat) (h : MH), J n h → StepD K c m mX10_blockingPairs [.ref c] mX11_blockingPairs [.ref m] J n h) ∧
  (∀ (n : Nat) (h : MH) (p1 : Int32), J n h → StepI K m o mL_noShow [.ref c, .int p1, .ref o] mX11_noShow [.ref m, .int p1] J n h) ∧
  (∀ (n : Nat) (h : MH) (p1 : Int32), J n h → StepJ K m o mL_comeBack [.ref c, .int p1, .ref o] mX11_comeBack [.ref m, .int p1] J n h) ∧
  (∀ (n : Nat) (h : MH) (p1 : Int32), J n h → StepI K m o mL_replacement [.ref c, .int p1, .ref o] mX11_replacement [.ref m, .int p1] J n h) ∧
  (∀ (n : Nat) (h : MH) (p1 : Int32), J n h → StepI K m o mL_fill [.ref c, .int p1, .ref o] mX11_fill [.ref m, .int p1] J n h) ∧
  (∀ (n : Nat) (h : MH) (p1 : Int32), J n h → StepI K m o mL_tripCost [.ref c, .int p1, .ref o] mX11_tripCost [.ref m, .int p1] J n h) ∧
  (∀ (n : Nat) (h : MH) (p1 : Int32), J n h → StepI K m o mL_marginal [.ref c, .int p1, .ref o] mX11_marginal [.ref m, .int p1] J n h) ∧
  (∀ (n : Nat) (h : MH) (p1 : Int32), J n h → StepI K m o mL_share [.ref c, .int p1, .ref o] mX11_share [.ref m, .int p1] J n h) ∧
  (∀ (n : Nat) (h : MH) (p1 : Int32), J n h → StepI K m o mL_driverShare [.ref c, .int p1, .ref o] mX11_driverShare [.ref m, .int p1] J n h) ∧
  (∀ (n : Nat) (h : MH) (p1 : Int32), J n h → StepI K m o mL_complete [.ref c, .int p1, .ref o] mX11_complete [.ref m, .int p1] J n h) ∧
  (∀ (n : Nat) (h : MH) (p1 : Int32), J n h → StepJ K m o mL_riderCredit [.ref c, .int p1, .ref o] mX11_riderCredit [.ref m, .int p1] J n h) ∧
  (∀ (n : Nat) (h : MH) (p1 : Int32), J n h → StepJ K m o mL_driverCredit [.ref c, .int p1, .ref o] mX11_driverCredit [.ref m, .int p1] J n h) ∧
  (∀ (n : Nat) (h : MH) (p1 p2 : Int32), J n h → StepJ K m o mL_pay [.ref c, .int p1, .int p2, .ref o] mX11_pay [.ref m, .int p1, .int p2] J n h) ∧
  (∀ (n : Nat) (h : MH) (p1 : Int32), J n h → StepD K c m mX10_debtor [.ref c, .int p1] mX11_debtor [.ref m, .int p1] J n h) ∧
  (∀ (n : Nat) (h : MH), J n h → StepD K c m mX10_meanDetourNumerator [.ref c] mX11_meanDetourNumerator [.ref m] J n h) ∧
  (∀ (n : Nat) (h : MH), J n h → StepD K c m mX10_meanDetourDenominator [.ref c] mX11_meanDetourDenominator [.ref m] J n h) ∧
  (∀ (n : Nat) (h : MH) (p1 : Int32), J n h → StepI K m o mL_appendText [.ref c, .int p1, .ref o] mX11_appendText [.ref m, .int p1] J n h) ∧
  (∀ (n : Nat) (h : MH) (p1 : Int32), J n h → StepI K m o mL_truncateText [.ref c, .int p1, .ref o] mX11_truncateText [.ref m, .int p1] J n h) ∧
  (∀ (n : Nat) (h : MH), J n h → StepD K c m mX10_load [.ref c] mX11_load [.ref m] J n h) ∧
  (∀ (n : Nat) (h : MH), J n h → StepD K c m mX10_errorCode [.ref c] mX11_errorCode [.ref m] J n h) ∧
  (∀ (n : Nat) (h : MH), J n h → StepD K c m mX10_errorPosition [.ref c] mX11_errorPosition [.ref m] J n h) ∧
  (∀ (n : Nat) (h : MH) (p1 : Int32), J n h → StepV K m mL_save [.ref c, .int p1] mX11_save [.ref m, .int p1] J n h) ∧
  (∀ (n : Nat) (h : MH) (p1 : Int32), J n h → StepV K m mL_restore [.ref c, .int p1] mX11_restore [.ref m, .int p1] J n h)
theorem and63 (x : Int32) : ∃ q, q < 64 ∧ x &&& 63 = nI q := by
  refine ⟨x.toBitVec.toNat % 64, Nat.mod_lt _ (by decide), ?_⟩
  apply Int32.toBitVec_inj.mp
  apply BitVec.eq_of_toNat_eq
  rw [Int32.toBitVec_and, BitVec.toNat_and, pk_tn (Nat.lt_trans (Nat.mod_lt _ (by decide : 0 < 64)) (by decide))]
  rw [show ((63 : Int32).toBitVec).toNat = 2 ^ 6 - 1 from rfl, Nat.and_two_pow_sub_one_eq_mod]
theorem sub7 {L t : Nat} (hL : L ≤ 3584) (ht : 7 * t < 4000) : (nI L - nI 7 < nI (7 * t)) ↔ L < 7 * t + 7 := by
  have e1 : (nI L - nI 7).toInt = (L : Int) - 7 := by
    rw [Int32.toInt_sub, nI_toInt (show L < 2147483648 by omega), nI_toInt (show 7 < 2147483648 by omega)]
    exact Int.bmod_eq_of_le_mul_two (by omega) (by omega)
  rw [Int32.lt_iff_toInt_lt, e1, nI_toInt (show 7 * t < 2147483648 by omega)]
  omega
set_option maxRecDepth 100000 in
set_option maxHeartbeats 4000000 in
theorem lw_loop {K : KX} {b c m o L : Nat} {xs : Nat → Int32} {J : Nat → MH → Prop} (hL : L ≤ 3584) (HA : AllS K c m o J) : ∀ (u t k sl n : Nat) (h : MH), 7 * t ≤ L → L < 7 * (t + u) + 7 → k ≤ 1000 + 100 * t → sl ≤ 20000 + 2000 * t → J n h → GL (lawG K) (XSc K b L xs) k sl 23 (lawL b c m o t) [] n h := by
  obtain ⟨H0, H1, H2, H3, H4, H5, H6, H7, H8, H9, H10, H11, H12, H13, H14, H15, H16, H17, H18, H19, H20, H21, H22, H23, H24, H25, H26, H27, H28, H29, H30, H31, H32, H33, H34, H35, H36, H37, H38, H39, H40, H41, H42, H43, H44, H45⟩ := HA
  intro u
  induction u with
  | zero => ?_
  | succ u ih => ?_
  all_goals
    intro t k sl n h h7 hu hk hs j0
    have hrC := rm_c
    have hrS := rm_s
    refine ml_iload 4 dL_law_23 rfl ?_
    refine ml_aload_n 0 dL_law_25 rfl ?_
    refine ml_slen rfl dL_law_26 ?_
    refine ml_bipush (v := (7)) dL_law_27 rfl ?_
    refine ml_isub dL_law_29 ?_
    refine ml_icmp_gt 2609 dL_law_30 (by decide) (fun c_30 => ?_) (fun c_30 => ?_)
  · refine ml_iconst (v := 1) dL_law_2609 rfl ?_
    exact ml_zret dL_law_2610 rfl (Or.inr rfl) (show k ≤ rmC by omega) (show sl ≤ rmS by omega) rfl
  · exact absurd ((sub7 hL (by omega)).mpr (by omega)) c_30
  · refine ml_iconst (v := 1) dL_law_2609 rfl ?_
    exact ml_zret dL_law_2610 rfl (Or.inr rfl) (show k ≤ rmC by omega) (show sl ≤ rmS by omega) rfl
  · have ht : 7 * t + 6 < L := by
      rcases Nat.lt_or_ge (7 * t + 6) L with q | q
      · exact q
      · exact absurd ((sub7 hL (by omega)).mpr (by omega)) c_30
    have hg : ∀ k' sl' n' h', k' ≤ k + 100 → sl' ≤ sl + 2000 → J n' h' → GL (lawG K) (XSc K b L xs) k' sl' 2603 (lawL b c m o t) [] n' h' := by
      intro k' sl' n' h' hk' hs' j'
      refine ml_iinc (v := nI (7 * (t + 1))) (ls' := [(4, _), (0, _), (1, _), (2, _), (3, _)]) 4 dL_law_2603 rfl (nI_add (7 * t) 7) (Nat.le_of_ble_eq_true rfl) rfl ?_
      refine ml_goto 23 dL_law_2606 (by decide) ?_
      exact ml_ls [1, 2, 3, 4, 0] rfl (ih (t + 1) k' sl' n' h' (by omega) (by omega) (by omega) (by omega) j')
    have hk4 : k + 400 ≤ rmC := by omega
    have hs4 : sl + 5000 ≤ rmS := by omega
    refine ml_aload_n 0 dL_law_33 rfl ?_
    refine ml_iload 4 dL_law_34 rfl ?_
    refine ml_sld (j := 7 * t) rfl (nI_toInt (by omega)) (by omega) dL_law_36 ?_
    refine ml_bipush (v := (63)) dL_law_37 rfl ?_
    refine ml_iand dL_law_39 ?_
    obtain ⟨q, hq, e9⟩ := and63 (xs (7 * t))
    refine ml_eq e9 ?_
    clear e9
    by_cases e0 : q = 0
    · subst e0
      exact ml_tabIn 240 dL_law_40 (by decide +kernel) (by decide +kernel) (show _ = some 200 by decide +kernel) (by decide) (lwc_0 ht hL hk4 hs4 (H0 n h _ _ _ _ j0) hg)
    by_cases e1 : q = 1
    · subst e1
      exact ml_tabIn 332 dL_law_40 (by decide +kernel) (by decide +kernel) (show _ = some 292 by decide +kernel) (by decide) (lwc_1 ht hL hk4 hs4 (H1 n h _ _ _ _ _ j0) hg)
    by_cases e2 : q = 2
    · subst e2
      exact ml_tabIn 436 dL_law_40 (by decide +kernel) (by decide +kernel) (show _ = some 396 by decide +kernel) (by decide) (lwc_2 ht hL hk4 hs4 (H2 n h _ _ _ _ _ _ j0) hg)
    by_cases e3 : q = 3
    · subst e3
      exact ml_tabIn 554 dL_law_40 (by decide +kernel) (by decide +kernel) (show _ = some 514 by decide +kernel) (by decide) (lwc_3 ht hL hk4 hs4 (H3 n h  j0) hg)
    by_cases e4 : q = 4
    · subst e4
      exact ml_tabIn 567 dL_law_40 (by decide +kernel) (by decide +kernel) (show _ = some 527 by decide +kernel) (by decide) (lwc_4 ht hL hk4 hs4 (H4 n h  j0) hg)
    by_cases e5 : q = 5
    · subst e5
      exact ml_tabIn 580 dL_law_40 (by decide +kernel) (by decide +kernel) (show _ = some 540 by decide +kernel) (by decide) (lwc_5 ht hL hk4 hs4 (H5 n h _ j0) hg)
    by_cases e6 : q = 6
    · subst e6
      exact ml_tabIn 643 dL_law_40 (by decide +kernel) (by decide +kernel) (show _ = some 603 by decide +kernel) (by decide) (lwc_6 ht hL hk4 hs4 (H6 n h _ j0) hg)
    by_cases e7 : q = 7
    · subst e7
      exact ml_tabIn 699 dL_law_40 (by decide +kernel) (by decide +kernel) (show _ = some 659 by decide +kernel) (by decide) (lwc_7 ht hL hk4 hs4 (H7 n h _ j0) hg)
    by_cases e8 : q = 8
    · subst e8
      exact ml_tabIn 755 dL_law_40 (by decide +kernel) (by decide +kernel) (show _ = some 715 by decide +kernel) (by decide) (lwc_8 ht hL hk4 hs4 (H8 n h _ j0) hg)
    by_cases e9 : q = 9
    · subst e9
      exact ml_tabIn 811 dL_law_40 (by decide +kernel) (by decide +kernel) (show _ = some 771 by decide +kernel) (by decide) (lwc_9 ht hL hk4 hs4 (H9 n h _ j0) hg)
    by_cases e10 : q = 10
    · subst e10
      exact ml_tabIn 867 dL_law_40 (by decide +kernel) (by decide +kernel) (show _ = some 827 by decide +kernel) (by decide) (lwc_10 ht hL hk4 hs4 (H10 n h _ j0) hg)
    by_cases e11 : q = 11
    · subst e11
      exact ml_tabIn 923 dL_law_40 (by decide +kernel) (by decide +kernel) (show _ = some 883 by decide +kernel) (by decide) (lwc_11 ht hL hk4 hs4 (H11 n h _ _ j0) hg)
    by_cases e12 : q = 12
    · subst e12
      exact ml_tabIn 991 dL_law_40 (by decide +kernel) (by decide +kernel) (show _ = some 951 by decide +kernel) (by decide) (lwc_12 ht hL hk4 hs4 (H12 n h _ _ j0) hg)
    by_cases e13 : q = 13
    · subst e13
      exact ml_tabIn 1059 dL_law_40 (by decide +kernel) (by decide +kernel) (show _ = some 1019 by decide +kernel) (by decide) (lwc_13 ht hL hk4 hs4 (H13 n h _ j0) hg)
    by_cases e14 : q = 14
    · subst e14
      exact ml_tabIn 1115 dL_law_40 (by decide +kernel) (by decide +kernel) (show _ = some 1075 by decide +kernel) (by decide) (lwc_14 ht hL hk4 hs4 (H14 n h _ j0) hg)
    by_cases e15 : q = 15
    · subst e15
      exact ml_tabIn 1171 dL_law_40 (by decide +kernel) (by decide +kernel) (show _ = some 1131 by decide +kernel) (by decide) (lwc_15 ht hL hk4 hs4 (H15 n h _ _ j0) hg)
    by_cases e16 : q = 16
    · subst e16
      exact ml_tabIn 1239 dL_law_40 (by decide +kernel) (by decide +kernel) (show _ = some 1199 by decide +kernel) (by decide) (lwc_16 ht hL hk4 hs4 (H16 n h _ _ j0) hg)
    by_cases e17 : q = 17
    · subst e17
      exact ml_tabIn 1307 dL_law_40 (by decide +kernel) (by decide +kernel) (show _ = some 1267 by decide +kernel) (by decide) (lwc_17 ht hL hk4 hs4 (H17 n h _ j0) hg)
    by_cases e18 : q = 18
    · subst e18
      exact ml_tabIn 1363 dL_law_40 (by decide +kernel) (by decide +kernel) (show _ = some 1323 by decide +kernel) (by decide) (lwc_18 ht hL hk4 hs4 (H18 n h _ _ j0) hg)
    by_cases e19 : q = 19
    · subst e19
      exact ml_tabIn 1431 dL_law_40 (by decide +kernel) (by decide +kernel) (show _ = some 1391 by decide +kernel) (by decide) (lwc_19 ht hL hk4 hs4 (H19 n h _ j0) hg)
    by_cases e20 : q = 20
    · subst e20
      exact ml_tabIn 1487 dL_law_40 (by decide +kernel) (by decide +kernel) (show _ = some 1447 by decide +kernel) (by decide) (lwc_20 ht hL hk4 hs4 (H20 n h  j0) hg)
    by_cases e21 : q = 21
    · subst e21
      exact ml_tabIn 1500 dL_law_40 (by decide +kernel) (by decide +kernel) (show _ = some 1460 by decide +kernel) (by decide) (lwc_21 ht hL hk4 hs4 (H21 n h _ _ j0) hg)
    by_cases e22 : q = 22
    · subst e22
      exact ml_tabIn 1568 dL_law_40 (by decide +kernel) (by decide +kernel) (show _ = some 1528 by decide +kernel) (by decide) (lwc_22 ht hL hk4 hs4 (H22 n h _ _ j0) hg)
    by_cases e23 : q = 23
    · subst e23
      exact ml_tabIn 1636 dL_law_40 (by decide +kernel) (by decide +kernel) (show _ = some 1596 by decide +kernel) (by decide) (lwc_23 ht hL hk4 hs4 (H23 n h  j0) hg)
    by_cases e24 : q = 24
    · subst e24
      exact ml_tabIn 1649 dL_law_40 (by decide +kernel) (by decide +kernel) (show _ = some 1609 by decide +kernel) (by decide) (lwc_24 ht hL hk4 hs4 (H24 n h _ j0) hg)
    by_cases e25 : q = 25
    · subst e25
      exact ml_tabIn 1705 dL_law_40 (by decide +kernel) (by decide +kernel) (show _ = some 1665 by decide +kernel) (by decide) (lwc_25 ht hL hk4 hs4 (H25 n h _ j0) hg)
    by_cases e26 : q = 26
    · subst e26
      exact ml_tabIn 1760 dL_law_40 (by decide +kernel) (by decide +kernel) (show _ = some 1720 by decide +kernel) (by decide) (lwc_26 ht hL hk4 hs4 (H26 n h _ j0) hg)
    by_cases e27 : q = 27
    · subst e27
      exact ml_tabIn 1816 dL_law_40 (by decide +kernel) (by decide +kernel) (show _ = some 1776 by decide +kernel) (by decide) (lwc_27 ht hL hk4 hs4 (H27 n h _ j0) hg)
    by_cases e28 : q = 28
    · subst e28
      exact ml_tabIn 1872 dL_law_40 (by decide +kernel) (by decide +kernel) (show _ = some 1832 by decide +kernel) (by decide) (lwc_28 ht hL hk4 hs4 (H28 n h _ j0) hg)
    by_cases e29 : q = 29
    · subst e29
      exact ml_tabIn 1928 dL_law_40 (by decide +kernel) (by decide +kernel) (show _ = some 1888 by decide +kernel) (by decide) (lwc_29 ht hL hk4 hs4 (H29 n h _ j0) hg)
    by_cases e30 : q = 30
    · subst e30
      exact ml_tabIn 1984 dL_law_40 (by decide +kernel) (by decide +kernel) (show _ = some 1944 by decide +kernel) (by decide) (lwc_30 ht hL hk4 hs4 (H30 n h _ j0) hg)
    by_cases e31 : q = 31
    · subst e31
      exact ml_tabIn 2040 dL_law_40 (by decide +kernel) (by decide +kernel) (show _ = some 2000 by decide +kernel) (by decide) (lwc_31 ht hL hk4 hs4 (H31 n h _ j0) hg)
    by_cases e32 : q = 32
    · subst e32
      exact ml_tabIn 2096 dL_law_40 (by decide +kernel) (by decide +kernel) (show _ = some 2056 by decide +kernel) (by decide) (lwc_32 ht hL hk4 hs4 (H32 n h _ j0) hg)
    by_cases e33 : q = 33
    · subst e33
      exact ml_tabIn 2152 dL_law_40 (by decide +kernel) (by decide +kernel) (show _ = some 2112 by decide +kernel) (by decide) (lwc_33 ht hL hk4 hs4 (H33 n h _ j0) hg)
    by_cases e34 : q = 34
    · subst e34
      exact ml_tabIn 2207 dL_law_40 (by decide +kernel) (by decide +kernel) (show _ = some 2167 by decide +kernel) (by decide) (lwc_34 ht hL hk4 hs4 (H34 n h _ j0) hg)
    by_cases e35 : q = 35
    · subst e35
      exact ml_tabIn 2262 dL_law_40 (by decide +kernel) (by decide +kernel) (show _ = some 2222 by decide +kernel) (by decide) (lwc_35 ht hL hk4 hs4 (H35 n h _ _ j0) hg)
    by_cases e36 : q = 36
    · subst e36
      exact ml_tabIn 2329 dL_law_40 (by decide +kernel) (by decide +kernel) (show _ = some 2289 by decide +kernel) (by decide) (lwc_36 ht hL hk4 hs4 (H36 n h _ j0) hg)
    by_cases e37 : q = 37
    · subst e37
      exact ml_tabIn 2354 dL_law_40 (by decide +kernel) (by decide +kernel) (show _ = some 2314 by decide +kernel) (by decide) (lwc_37 ht hL hk4 hs4 (H37 n h  j0) hg)
    by_cases e38 : q = 38
    · subst e38
      exact ml_tabIn 2367 dL_law_40 (by decide +kernel) (by decide +kernel) (show _ = some 2327 by decide +kernel) (by decide) (lwc_38 ht hL hk4 hs4 (H38 n h  j0) hg)
    by_cases e39 : q = 39
    · subst e39
      exact ml_tabIn 2380 dL_law_40 (by decide +kernel) (by decide +kernel) (show _ = some 2340 by decide +kernel) (by decide) (lwc_39 ht hL hk4 hs4 (H39 n h _ j0) hg)
    by_cases e40 : q = 40
    · subst e40
      exact ml_tabIn 2436 dL_law_40 (by decide +kernel) (by decide +kernel) (show _ = some 2396 by decide +kernel) (by decide) (lwc_40 ht hL hk4 hs4 (H40 n h _ j0) hg)
    by_cases e41 : q = 41
    · subst e41
      exact ml_tabIn 2492 dL_law_40 (by decide +kernel) (by decide +kernel) (show _ = some 2452 by decide +kernel) (by decide) (lwc_41 ht hL hk4 hs4 (H41 n h  j0) hg)
    by_cases e42 : q = 42
    · subst e42
      exact ml_tabIn 2505 dL_law_40 (by decide +kernel) (by decide +kernel) (show _ = some 2465 by decide +kernel) (by decide) (lwc_42 ht hL hk4 hs4 (H42 n h  j0) hg)
    by_cases e43 : q = 43
    · subst e43
      exact ml_tabIn 2518 dL_law_40 (by decide +kernel) (by decide +kernel) (show _ = some 2478 by decide +kernel) (by decide) (lwc_43 ht hL hk4 hs4 (H43 n h  j0) hg)
    by_cases e44 : q = 44
    · subst e44
      exact ml_tabIn 2531 dL_law_40 (by decide +kernel) (by decide +kernel) (show _ = some 2491 by decide +kernel) (by decide) (lwc_44 ht hL hk4 hs4 (H44 n h _ j0) hg)
    by_cases e45 : q = 45
    · subst e45
      exact ml_tabIn 2567 dL_law_40 (by decide +kernel) (by decide +kernel) (show _ = some 2527 by decide +kernel) (by decide) (lwc_45 ht hL hk4 hs4 (H45 n h _ j0) hg)
    have h46 : 46 ≤ q := by omega
    have eq0 : (nI q).toInt = (q : Int) := nI_toInt (by omega)
    exact ml_tabOut 2603 dL_law_40 (Or.inr (by rw [eq0]; omega)) (by decide) (hg _ _ _ _ (by omega) (by omega) j0)
