def SolE (B : BS) (S : Nat → Nat → Int32) : Prop := ∀ d r, d < bnd B → r < bnr B → S d r = b_solo B d r
set_option maxRecDepth 100000 in
set_option maxHeartbeats 4000000 in
theorem cn_X10_riderChoice_no {K : KX} {n : Nat} {h : MH} {c : Nat} {P : CS} (x : Cp h n c P) {i : Int32} (hi : b_in i 0 (nI (bnr (pB P)) - 1) = false) {pl : Int32} : Con K mX10_riderChoice [.ref c, .int i, .int pl] 1 6 n h (Thr "java/lang/IndexOutOfBoundsException" n h) := by
  obtain ⟨ba, sa, Sp, S, H, A, V, Kx, x, xfc, xfp⟩ := x
  obtain ⟨c0, bd, sp, sv, ins, pf, mt, sh, tx, rd, ad, nn⟩ := id x
  have b0 := bd.1
  have b5 := bd.2.2.2.2.2.1
  have b6 := bd.2.2.2.2.2.2
  have adr := x.adr
  refine Con.of (by decide +kernel) (Nat.le_of_ble_eq_true rfl) ?_
  refine mj_aload_n 0 dX10_riderChoice_0 rfl ?_
  refine mj_getf dX10_riderChoice_1 fgX10_12 (by repeat (first | assumption | exact mup_s _ _ _ | rw [mup_n _ _ (by omega)])) rfl ?_
  refine mj_iload_n 1 dX10_riderChoice_4 rfl ?_
  exact mj_tV [_] (RX0, TX0, 5) dX10_riderChoice_5 cwX0_rider lkX10_152 b0 rfl rfl rfl rfl rfl (cn_X0_rider_no bd hi) ⟨Nat.le_of_ble_eq_true rfl, Nat.le_of_ble_eq_true rfl, Nat.le_of_ble_eq_true rfl, Nat.le_of_ble_eq_true rfl, Nat.le_of_ble_eq_true rfl⟩ (fun n9 h9 q1 q2 => ⟨rfl, q1, q2⟩)
set_option maxRecDepth 100000 in
set_option maxHeartbeats 4000000 in
theorem cn_X10_riderChoice {K : KX} {n : Nat} {h : MH} {c : Nat} {P : CS} (x : Cp h n c P) {i : Int32} {r : Nat} (hi : i = nI r) (hr : r < bnr (pB P)) {pl : Int32} (tk : Tok (pB P)) : Con K mX10_riderChoice [.ref c, .int i, .int pl] 0 0 n h (fun r9 n9 h' => ∃ S8, SolE (pB P) S8 ∧ r9 = .inl (some (.int (p_dat (pB P) S8 r pl))) ∧ n9 = n ∧ CpE h h' n c P) := by
  obtain ⟨ba, sa, Sp, S, H, A, V, Kx, x, xfc, xfp⟩ := x
  obtain ⟨c0, bd, sp, sv, ins, pf, mt, sh, tx, rd, ad, nn⟩ := id x
  have b0 := bd.1
  have b5 := bd.2.2.2.2.2.1
  have b6 := bd.2.2.2.2.2.2
  have adr := x.adr
  refine Con.of (by decide +kernel) (Nat.le_of_ble_eq_true rfl) ?_
  refine mj_aload_n 0 dX10_riderChoice_0 rfl ?_
  refine mj_getf dX10_riderChoice_1 fgX10_12 (by repeat (first | assumption | exact mup_s _ _ _ | rw [mup_n _ _ (by omega)])) rfl ?_
  refine mj_iload_n 1 dX10_riderChoice_4 rfl ?_
  refine mj_cV1 [_] (RX0, TX0, 5) dX10_riderChoice_5 cwX0_rider lkX10_152 (bd.1) rfl rfl rfl rfl (cn_X0_rider bd (j := r) hi hr) ⟨Nat.le_of_ble_eq_true rfl, Nat.le_of_ble_eq_true rfl, Nat.le_of_ble_eq_true rfl, Nat.le_of_ble_eq_true rfl, Nat.le_of_ble_eq_true rfl⟩ (fun h' e' => ?_)
  subst h'
  refine mj_astore_n (ls' := [(3, _), (0, _), (1, _), (2, _)]) dX10_riderChoice_8 (Nat.le_of_ble_eq_true rfl) rfl ?_
  refine mj_aload_n 1 dX10_riderChoice_9 rfl ?_
  refine mj_getf dX10_riderChoice_10 fgX10_33 (by repeat (first | assumption | exact mup_s _ _ _ | rw [mup_n _ _ (by omega)])) rfl ?_
  refine mj_aload_n 1 dX10_riderChoice_13 rfl ?_
  refine mj_getf dX10_riderChoice_14 fgX10_12 (by repeat (first | assumption | exact mup_s _ _ _ | rw [mup_n _ _ (by omega)])) rfl ?_
  refine mj_aload_n 1 dX10_riderChoice_17 rfl ?_
  refine mj_getf dX10_riderChoice_18 fgX10_26 (by repeat (first | assumption | exact mup_s _ _ _ | rw [mup_n _ _ (by omega)])) rfl ?_
  have pf0 := pf.1
  refine mj_cV0 [_, _] (RX4, TX4, 1) dX10_riderChoice_21 cwX4_read lkX10_219 pf0 rfl rfl rfl rfl (cn_X4_read pf bd ins tk (by omega) (by omega) (by omega)) ⟨Nat.le_of_ble_eq_true rfl, Nat.le_of_ble_eq_true rfl, Nat.le_of_ble_eq_true rfl, Nat.le_of_ble_eq_true rfl, Nat.le_of_ble_eq_true rfl⟩ (fun h' e' => ?_)
  obtain ⟨S8, pf8, se, i8, o8⟩ := e'
  have bd8 := bd.at fun q h1 h2 => o8 q (by omega) (by omega)
  have c08 : h' c = some (cpC c ba sa) := (o8 _ (by omega) (by omega)).trans c0
  have b08 := bd8.1
  have pf80 := pf8.1
  refine mj_aload_n 1 dX10_riderChoice_24 rfl ?_
  refine mj_getf dX10_riderChoice_25 fgX10_33 (by repeat (first | assumption | exact mup_s _ _ _ | rw [mup_n _ _ (by omega)])) rfl ?_
  refine mj_aload_n 1 dX10_riderChoice_28 rfl ?_
  refine mj_getf dX10_riderChoice_29 fgX10_12 (by repeat (first | assumption | exact mup_s _ _ _ | rw [mup_n _ _ (by omega)])) rfl ?_
  refine mj_aload_n 0 dX10_riderChoice_32 rfl ?_
  refine mj_iload_n 3 dX10_riderChoice_33 rfl ?_
  refine mj_cV1 [_, _, _] (RX4, TX4, 1) dX10_riderChoice_34 cwX4_driverAt lkX10_231 pf80 rfl rfl rfl rfl (cn_X4_driverAt pf8 bd8 (d := 0) (by omega)) ⟨Nat.le_of_ble_eq_true rfl, Nat.le_of_ble_eq_true rfl, Nat.le_of_ble_eq_true rfl, Nat.le_of_ble_eq_true rfl, Nat.le_of_ble_eq_true rfl⟩ (fun h9 e' => ?_)
  subst h9
  exact mj_iret dX10_riderChoice_37 rfl (Nat.le_of_ble_eq_true rfl) (Nat.le_of_ble_eq_true rfl) ⟨S8, se, rfl, rfl, ⟨ba, sa, Sp, S8, H, A, V, Kx, x.bd bd8 i8 pf8 (mt.at fun q h1 h2 => o8 q (by omega) (by omega)) (sh.at fun q h1 h2 => o8 q (by omega) (by omega)) (fun q h1 h2 => o8 q (by omega) (by omega)), xfc, xfp⟩, fun q hq => o8 q (by omega) (by omega)⟩
set_option maxRecDepth 100000 in
set_option maxHeartbeats 4000000 in
theorem cn_X10_driverChoice_no {K : KX} {n : Nat} {h : MH} {c : Nat} {P : CS} (x : Cp h n c P) {i : Int32} (hi : b_in i 0 (nI (bnd (pB P)) - 1) = false) {pl : Int32} : Con K mX10_driverChoice [.ref c, .int i, .int pl] 1 6 n h (Thr "java/lang/IndexOutOfBoundsException" n h) := by
  obtain ⟨ba, sa, Sp, S, H, A, V, Kx, x, xfc, xfp⟩ := x
  obtain ⟨c0, bd, sp, sv, ins, pf, mt, sh, tx, rd, ad, nn⟩ := id x
  have b0 := bd.1
  have b5 := bd.2.2.2.2.2.1
  have b6 := bd.2.2.2.2.2.2
  have adr := x.adr
  refine Con.of (by decide +kernel) (Nat.le_of_ble_eq_true rfl) ?_
  refine mj_aload_n 0 dX10_driverChoice_0 rfl ?_
  refine mj_getf dX10_driverChoice_1 fgX10_12 (by repeat (first | assumption | exact mup_s _ _ _ | rw [mup_n _ _ (by omega)])) rfl ?_
  refine mj_iload_n 1 dX10_driverChoice_4 rfl ?_
  exact mj_tV [_] (RX0, TX0, 5) dX10_driverChoice_5 cwX0_driver lkX10_99 b0 rfl rfl rfl rfl rfl (cn_X0_driver_no bd hi) ⟨Nat.le_of_ble_eq_true rfl, Nat.le_of_ble_eq_true rfl, Nat.le_of_ble_eq_true rfl, Nat.le_of_ble_eq_true rfl, Nat.le_of_ble_eq_true rfl⟩ (fun n9 h9 q1 q2 => ⟨rfl, q1, q2⟩)
set_option maxRecDepth 100000 in
set_option maxHeartbeats 4000000 in
theorem cn_X10_driverChoice {K : KX} {n : Nat} {h : MH} {c : Nat} {P : CS} (x : Cp h n c P) {i : Int32} {d : Nat} (hi : i = nI d) (hd : d < bnd (pB P)) {pl : Int32} (tk : Tok (pB P)) : Con K mX10_driverChoice [.ref c, .int i, .int pl] 0 0 n h (fun r9 n9 h' => ∃ S8, SolE (pB P) S8 ∧ r9 = .inl (some (.int (p_rat (pB P) S8 d pl))) ∧ n9 = n ∧ CpE h h' n c P) := by
  obtain ⟨ba, sa, Sp, S, H, A, V, Kx, x, xfc, xfp⟩ := x
  obtain ⟨c0, bd, sp, sv, ins, pf, mt, sh, tx, rd, ad, nn⟩ := id x
  have b0 := bd.1
  have b5 := bd.2.2.2.2.2.1
  have b6 := bd.2.2.2.2.2.2
  have adr := x.adr
  refine Con.of (by decide +kernel) (Nat.le_of_ble_eq_true rfl) ?_
  refine mj_aload_n 0 dX10_driverChoice_0 rfl ?_
  refine mj_getf dX10_driverChoice_1 fgX10_12 (by repeat (first | assumption | exact mup_s _ _ _ | rw [mup_n _ _ (by omega)])) rfl ?_
  refine mj_iload_n 1 dX10_driverChoice_4 rfl ?_
  refine mj_cV1 [_] (RX0, TX0, 5) dX10_driverChoice_5 cwX0_driver lkX10_99 (bd.1) rfl rfl rfl rfl (cn_X0_driver bd (j := d) hi hd) ⟨Nat.le_of_ble_eq_true rfl, Nat.le_of_ble_eq_true rfl, Nat.le_of_ble_eq_true rfl, Nat.le_of_ble_eq_true rfl, Nat.le_of_ble_eq_true rfl⟩ (fun h' e' => ?_)
  subst h'
  refine mj_astore_n (ls' := [(3, _), (0, _), (1, _), (2, _)]) dX10_driverChoice_8 (Nat.le_of_ble_eq_true rfl) rfl ?_
  refine mj_aload_n 1 dX10_driverChoice_9 rfl ?_
  refine mj_getf dX10_driverChoice_10 fgX10_33 (by repeat (first | assumption | exact mup_s _ _ _ | rw [mup_n _ _ (by omega)])) rfl ?_
  refine mj_aload_n 1 dX10_driverChoice_13 rfl ?_
  refine mj_getf dX10_driverChoice_14 fgX10_12 (by repeat (first | assumption | exact mup_s _ _ _ | rw [mup_n _ _ (by omega)])) rfl ?_
  refine mj_aload_n 1 dX10_driverChoice_17 rfl ?_
  refine mj_getf dX10_driverChoice_18 fgX10_26 (by repeat (first | assumption | exact mup_s _ _ _ | rw [mup_n _ _ (by omega)])) rfl ?_
  have pf0 := pf.1
  refine mj_cV0 [_, _] (RX4, TX4, 1) dX10_driverChoice_21 cwX4_read lkX10_219 pf0 rfl rfl rfl rfl (cn_X4_read pf bd ins tk (by omega) (by omega) (by omega)) ⟨Nat.le_of_ble_eq_true rfl, Nat.le_of_ble_eq_true rfl, Nat.le_of_ble_eq_true rfl, Nat.le_of_ble_eq_true rfl, Nat.le_of_ble_eq_true rfl⟩ (fun h' e' => ?_)
  obtain ⟨S8, pf8, se, i8, o8⟩ := e'
  have bd8 := bd.at fun q h1 h2 => o8 q (by omega) (by omega)
  have c08 : h' c = some (cpC c ba sa) := (o8 _ (by omega) (by omega)).trans c0
  have b08 := bd8.1
  have pf80 := pf8.1
  refine mj_aload_n 1 dX10_driverChoice_24 rfl ?_
  refine mj_getf dX10_driverChoice_25 fgX10_33 (by repeat (first | assumption | exact mup_s _ _ _ | rw [mup_n _ _ (by omega)])) rfl ?_
  refine mj_aload_n 1 dX10_driverChoice_28 rfl ?_
  refine mj_getf dX10_driverChoice_29 fgX10_12 (by repeat (first | assumption | exact mup_s _ _ _ | rw [mup_n _ _ (by omega)])) rfl ?_
  refine mj_aload_n 0 dX10_driverChoice_32 rfl ?_
  refine mj_iload_n 3 dX10_driverChoice_33 rfl ?_
  refine mj_cV1 [_, _, _] (RX4, TX4, 1) dX10_driverChoice_34 cwX4_riderAt lkX10_235 pf80 rfl rfl rfl rfl (cn_X4_riderAt pf8 bd8 (r := 0) (by omega)) ⟨Nat.le_of_ble_eq_true rfl, Nat.le_of_ble_eq_true rfl, Nat.le_of_ble_eq_true rfl, Nat.le_of_ble_eq_true rfl, Nat.le_of_ble_eq_true rfl⟩ (fun h9 e' => ?_)
  subst h9
  exact mj_iret dX10_driverChoice_37 rfl (Nat.le_of_ble_eq_true rfl) (Nat.le_of_ble_eq_true rfl) ⟨S8, se, rfl, rfl, ⟨ba, sa, Sp, S8, H, A, V, Kx, x.bd bd8 i8 pf8 (mt.at fun q h1 h2 => o8 q (by omega) (by omega)) (sh.at fun q h1 h2 => o8 q (by omega) (by omega)) (fun q h1 h2 => o8 q (by omega) (by omega)), xfc, xfp⟩, fun q hq => o8 q (by omega) (by omega)⟩
def i_pairs (P : Nat → Nat → Bool) (nr : Nat) : Nat → Nat
  | 0 => 0
  | d + 1 => i_pairs P nr d + i_count (P d) nr
theorem i_pairs_le (P : Nat → Nat → Bool) (nr : Nat) : ∀ d, i_pairs P nr d ≤ d * nr
  | 0 => by simp [i_pairs]
  | d + 1 => by
    have h1 := i_pairs_le P nr d
    have h2 := i_count_le (P d) nr
    unfold i_pairs
    rw [Nat.succ_mul]
    omega
def DOk (B : BS) : Prop := ∀ r, r < bnr B → qst (bX B r) = 1 → ∃ j, j < bnd B ∧ qdr (bX B r) = nI j
set_option maxRecDepth 100000 in
set_option maxHeartbeats 4000000 in
theorem cn_X10_blockingPairs {K : KX} {n : Nat} {h : MH} {c : Nat} {P : CS} (x : Cp h n c P) (tk : Tok (pB P)) (dk : DOk (pB P)) : Con K mX10_blockingPairs [.ref c] 0 0 n h (fun r9 n9 h' => ∃ S8, SolE (pB P) S8 ∧ r9 = .inl (some (.int (nI (i_pairs (p_block (pB P) S8) (bnr (pB P)) (bnd (pB P)))))) ∧ n9 = n ∧ CpE h h' n c P) := by
  obtain ⟨ba, sa, Sp, S, H, A, V, Kx, x, xfc, xfp⟩ := x
  obtain ⟨c0, bd, sp, sv, ins, pf, mt, sh, tx, rd, ad, nn⟩ := id x
  have b0 := bd.1
  have b5 := bd.2.2.2.2.2.1
  have b6 := bd.2.2.2.2.2.2
  have adr := x.adr
  refine Con.of (by decide +kernel) (Nat.le_of_ble_eq_true rfl) ?_
  refine mj_aload_n 0 dX10_blockingPairs_0 rfl ?_
  refine mj_getf dX10_blockingPairs_1 fgX10_33 (by repeat (first | assumption | exact mup_s _ _ _ | rw [mup_n _ _ (by omega)])) rfl ?_
  refine mj_aload_n 0 dX10_blockingPairs_4 rfl ?_
  refine mj_getf dX10_blockingPairs_5 fgX10_12 (by repeat (first | assumption | exact mup_s _ _ _ | rw [mup_n _ _ (by omega)])) rfl ?_
  refine mj_aload_n 0 dX10_blockingPairs_8 rfl ?_
  refine mj_getf dX10_blockingPairs_9 fgX10_26 (by repeat (first | assumption | exact mup_s _ _ _ | rw [mup_n _ _ (by omega)])) rfl ?_
  have pf0 := pf.1
  refine mj_cV0 [_, _] (RX4, TX4, 1) dX10_blockingPairs_12 cwX4_read lkX10_219 pf0 rfl rfl rfl rfl (cn_X4_read pf bd ins tk (by omega) (by omega) (by omega)) ⟨Nat.le_of_ble_eq_true rfl, Nat.le_of_ble_eq_true rfl, Nat.le_of_ble_eq_true rfl, Nat.le_of_ble_eq_true rfl, Nat.le_of_ble_eq_true rfl⟩ (fun h' e' => ?_)
  obtain ⟨S8, pf8, se, i8, o8⟩ := e'
  have bd8 := bd.at fun q h1 h2 => o8 q (by omega) (by omega)
  have c08 : h' c = some (cpC c ba sa) := (o8 _ (by omega) (by omega)).trans c0
  have b08 := bd8.1
  have pf80 := pf8.1
  refine mj_iconst (v := 0) dX10_blockingPairs_15 rfl ?_
  refine mj_istore_n (ls' := [(1, _), (0, _)]) dX10_blockingPairs_16 (Nat.le_of_ble_eq_true rfl) rfl ?_
  refine mj_iconst (v := 0) dX10_blockingPairs_17 rfl ?_
  refine mj_istore_n (ls' := [(2, _), (1, _), (0, _)]) dX10_blockingPairs_18 (Nat.le_of_ble_eq_true rfl) rfl ?_
  generalize h' = g8 at *
  have loop : ∀ (f : Nat) (k v : Nat), k + f = bnd (pB P) → v = i_pairs (p_block (pB P) S8) (bnr (pB P)) k → GG (K, mX10_blockingPairs, 0, 0, (fun r9 n9 h' => ∃ S8, SolE (pB P) S8 ∧ r9 = .inl (some (.int (nI (i_pairs (p_block (pB P) S8) (bnr (pB P)) (bnd (pB P)))))) ∧ n9 = n ∧ CpE h h' n c P)) 0 0 19 [(2, .int (nI k)), (1, .int (nI v)), (0, .ref c)] [] n g8 := by
    intro f
    induction f with
    | zero =>
      intro k v hk hv
      refine mj_iload_n 0 dX10_blockingPairs_19 rfl ?_
      refine mj_aload_n 2 dX10_blockingPairs_20 rfl ?_
      refine mj_getf dX10_blockingPairs_21 fgX10_12 (by repeat (first | assumption | exact mup_s _ _ _ | rw [mup_n _ _ (by omega)])) rfl ?_
      refine mj_getf dX10_blockingPairs_24 fgX10_147 (by repeat (first | assumption | exact mup_s _ _ _ | rw [mup_n _ _ (by omega)])) rfl ?_
      refine mj_icmp_ge 88 dX10_blockingPairs_27 (by decide) (fun c_27 => ?_) (fun c_27 => ?_)
      · refine mj_iload_n 1 dX10_blockingPairs_88 rfl ?_
        exact mj_iret dX10_blockingPairs_89 rfl (Nat.le_of_ble_eq_true rfl) (Nat.le_of_ble_eq_true rfl) ⟨S8, se, by rw [show bnd (pB P) = k by omega, ← hv], rfl, ⟨ba, sa, Sp, S8, H, A, V, Kx, x.bd bd8 i8 pf8 (mt.at fun q h1 h2 => o8 q (by omega) (by omega)) (sh.at fun q h1 h2 => o8 q (by omega) (by omega)) (fun q h1 h2 => o8 q (by omega) (by omega)), xfc, xfp⟩, fun q hq => o8 q (by omega) (by omega)⟩
      · exact absurd (nI_le (by omega) (by omega)) c_27
    | succ f ih =>
      intro k v hk hv
      have loop2 : ∀ (f : Nat) (l v : Nat), l + f = bnr (pB P) → v = i_pairs (p_block (pB P) S8) (bnr (pB P)) k + i_count (p_block (pB P) S8 k) l → GG (K, mX10_blockingPairs, 0, 0, (fun r9 n9 h' => ∃ S8, SolE (pB P) S8 ∧ r9 = .inl (some (.int (nI (i_pairs (p_block (pB P) S8) (bnr (pB P)) (bnd (pB P)))))) ∧ n9 = n ∧ CpE h h' n c P)) 0 0 32 [(3, .int (nI l)), (1, .int (nI v)), (2, .int (nI k)), (0, .ref c)] [] n g8 := by
        intro f
        induction f with
        | zero =>
          intro l v hl hv
          refine mj_iload_n 0 dX10_blockingPairs_32 rfl ?_
          refine mj_aload_n 3 dX10_blockingPairs_33 rfl ?_
          refine mj_getf dX10_blockingPairs_34 fgX10_12 (by repeat (first | assumption | exact mup_s _ _ _ | rw [mup_n _ _ (by omega)])) rfl ?_
          refine mj_getf dX10_blockingPairs_37 fgX10_150 (by repeat (first | assumption | exact mup_s _ _ _ | rw [mup_n _ _ (by omega)])) rfl ?_
          refine mj_icmp_ge 82 dX10_blockingPairs_40 (by decide) (fun c_40 => ?_) (fun c_40 => ?_)
          · refine mj_iinc (ls' := [(2, _), (3, _), (1, _), (0, _)]) 2 dX10_blockingPairs_82 rfl (nI_s _) (Nat.le_of_ble_eq_true rfl) rfl ?_
            refine mj_goto 19 dX10_blockingPairs_85 (by decide) ?_
            exact mj_ls [0, 2, 3] rfl (ih (k + 1) v (by omega) (by rw [hv, show l = bnr (pB P) by omega]; rfl))
          · exact absurd (nI_le (show bnr (pB P) ≤ l by omega) (by omega)) c_40
        | succ f2 ih2 =>
          intro l v hl hv
          have hcl := i_count_le (p_block (pB P) S8 k) l
          have hpl := i_pairs_le (p_block (pB P) S8) (bnr (pB P)) k
          have hmul : k * bnr (pB P) ≤ 8 * 20 := Nat.mul_le_mul (by omega) (by omega)
          refine mj_iload_n 0 dX10_blockingPairs_32 rfl ?_
          refine mj_aload_n 3 dX10_blockingPairs_33 rfl ?_
          refine mj_getf dX10_blockingPairs_34 fgX10_12 (by repeat (first | assumption | exact mup_s _ _ _ | rw [mup_n _ _ (by omega)])) rfl ?_
          refine mj_getf dX10_blockingPairs_37 fgX10_150 (by repeat (first | assumption | exact mup_s _ _ _ | rw [mup_n _ _ (by omega)])) rfl ?_
          refine mj_icmp_ge 82 dX10_blockingPairs_40 (by decide) (fun c_40 => ?_) (fun c_40 => ?_)
          · exact absurd c_40 (nI_ge (show l < bnr (pB P) by omega) (by omega))
          · refine mj_aload_n 3 dX10_blockingPairs_43 rfl ?_
            refine mj_getf dX10_blockingPairs_44 fgX10_33 (by repeat (first | assumption | exact mup_s _ _ _ | rw [mup_n _ _ (by omega)])) rfl ?_
            refine mj_aload_n 3 dX10_blockingPairs_47 rfl ?_
            refine mj_getf dX10_blockingPairs_48 fgX10_12 (by repeat (first | assumption | exact mup_s _ _ _ | rw [mup_n _ _ (by omega)])) rfl ?_
            refine mj_aload_n 3 dX10_blockingPairs_51 rfl ?_
            refine mj_getf dX10_blockingPairs_52 fgX10_12 (by repeat (first | assumption | exact mup_s _ _ _ | rw [mup_n _ _ (by omega)])) rfl ?_
            refine mj_iload_n 2 dX10_blockingPairs_55 rfl ?_
            refine mj_cV1 [_] (RX0, TX0, 5) dX10_blockingPairs_56 cwX0_driver lkX10_99 (bd8.1) rfl rfl rfl rfl (cn_X0_driver bd8 (j := k) rfl (by omega)) ⟨Nat.le_of_ble_eq_true rfl, Nat.le_of_ble_eq_true rfl, Nat.le_of_ble_eq_true rfl, Nat.le_of_ble_eq_true rfl, Nat.le_of_ble_eq_true rfl⟩ (fun h' e' => ?_)
            subst h'
            refine mj_aload_n 3 dX10_blockingPairs_59 rfl ?_
            refine mj_getf dX10_blockingPairs_60 fgX10_12 (by repeat (first | assumption | exact mup_s _ _ _ | rw [mup_n _ _ (by omega)])) rfl ?_
            refine mj_iload_n 0 dX10_blockingPairs_63 rfl ?_
            refine mj_cV1 [_] (RX0, TX0, 5) dX10_blockingPairs_64 cwX0_rider lkX10_152 (bd8.1) rfl rfl rfl rfl (cn_X0_rider bd8 (j := l) rfl (by omega)) ⟨Nat.le_of_ble_eq_true rfl, Nat.le_of_ble_eq_true rfl, Nat.le_of_ble_eq_true rfl, Nat.le_of_ble_eq_true rfl, Nat.le_of_ble_eq_true rfl⟩ (fun h' e' => ?_)
            subst h'
            refine mj_cV1 [_, _, _] (RX4, TX4, 1) dX10_blockingPairs_67 cwX4_isBlocking lkX10_239 pf80 rfl rfl rfl rfl (cn_X4_isBlocking pf8 bd8 (show k < 8 by omega) (show l < 20 by omega) (dk l (by omega))) ⟨Nat.le_of_ble_eq_true rfl, Nat.le_of_ble_eq_true rfl, Nat.le_of_ble_eq_true rfl, Nat.le_of_ble_eq_true rfl, Nat.le_of_ble_eq_true rfl⟩ (fun h9 e' => ?_)
            subst h9
            refine mj_if_eq 76 dX10_blockingPairs_70 (by decide) (fun c_70 => ?_) (fun c_70 => ?_)
            · have z1 := bI_0.mp c_70
              refine mj_iinc (ls' := [(3, _), (1, _), (2, _), (0, _)]) 0 dX10_blockingPairs_76 rfl (nI_s _) (Nat.le_of_ble_eq_true rfl) rfl ?_
              refine mj_goto 32 dX10_blockingPairs_79 (by decide) ?_
              exact mj_ls [0, 1, 2, 3] rfl (ih2 (l + 1) v (by omega) (by rw [hv]; simp [i_count, z1]))
            · have z1 := bI_n0.mp c_70
              refine mj_iinc (ls' := [(1, _), (3, _), (2, _), (0, _)]) 1 dX10_blockingPairs_73 rfl (nI_s _) (Nat.le_of_ble_eq_true rfl) rfl ?_
              refine mj_iinc (ls' := [(3, _), (1, _), (2, _), (0, _)]) 1 dX10_blockingPairs_76 rfl (nI_s _) (Nat.le_of_ble_eq_true rfl) rfl ?_
              refine mj_goto 32 dX10_blockingPairs_79 (by decide) ?_
              exact mj_ls [0, 1, 2, 3] rfl (ih2 (l + 1) (v + 1) (by omega) (by rw [hv]; simp [i_count, z1]; omega))
      refine mj_iload_n 0 dX10_blockingPairs_19 rfl ?_
      refine mj_aload_n 2 dX10_blockingPairs_20 rfl ?_
      refine mj_getf dX10_blockingPairs_21 fgX10_12 (by repeat (first | assumption | exact mup_s _ _ _ | rw [mup_n _ _ (by omega)])) rfl ?_
      refine mj_getf dX10_blockingPairs_24 fgX10_147 (by repeat (first | assumption | exact mup_s _ _ _ | rw [mup_n _ _ (by omega)])) rfl ?_
      refine mj_icmp_ge 88 dX10_blockingPairs_27 (by decide) (fun c_27 => ?_) (fun c_27 => ?_)
      · exact absurd c_27 (nI_ge (by omega) (by omega))
      · refine mj_iconst (v := 0) dX10_blockingPairs_30 rfl ?_
        refine mj_istore_n (ls' := [(3, _), (2, _), (1, _), (0, _)]) dX10_blockingPairs_31 (Nat.le_of_ble_eq_true rfl) rfl ?_
        exact mj_ls [0, 2, 1, 3] rfl (loop2 (bnr (pB P)) 0 v (by omega) (by rw [hv]; rfl))
  exact mj_ls [0, 1, 2] rfl (loop (bnd (pB P)) 0 0 (by omega) rfl)
def b_mapX (B : BS) (f : Nat → RdS → RdS) (k : Nat) : BS := (bnd B, bnr B, bpe B, bD B, bT B, fun r => if r < k then f r (bX B r) else bX B r)
theorem b_mapX_go (B : BS) (f : Nat → RdS → RdS) (k : Nat) : b_setX (b_mapX B f k) k (f k (bX B k)) = b_mapX B f (k + 1) := by
  unfold b_setX b_mapX bX
  dsimp only
  congr 5
  funext j
  by_cases e : j = k
  · rw [e, vf_s, if_pos (by omega)]
  · rw [vf_n _ _ e]
    by_cases h : j < k
    · rw [if_pos h, if_pos (by omega)]
    · rw [if_neg h, if_neg (by omega)]
theorem b_mapX_k (B : BS) (f : Nat → RdS → RdS) (k : Nat) : bX (b_mapX B f k) k = bX B k := by
  show (if k < k then _ else _) = _
  rw [if_neg (by omega)]
theorem b_mapX_same (B : BS) (f : Nat → RdS → RdS) (k : Nat) (h : f k (bX B k) = bX B k) : b_mapX B f (k + 1) = b_mapX B f k := by
  rw [← b_mapX_go, h]
  unfold b_setX
  conv => lhs; rw [← b_mapX_k B f k]
  rw [vf_id]
theorem b_mapX_0 (B : BS) (f : Nat → RdS → RdS) : b_mapX B f 0 = B := rfl
def x_comp (d : Nat) (O : Nat → Int32) (r : Nat) (X : RdS) : RdS := if qdr X = nI d then x_st (x_cr X (qcr X - (O r).toInt64)) 3 else X
def b_csum (B : BS) (d : Nat) (O : Nat → Int32) : Nat → Int32
  | 0 => 0
  | k + 1 => if qdr (bX B k) = nI d then b_csum B d O k + O k else b_csum B d O k
def d_comp (D : DS) (s : Int32) : DS := (dse D, dde D, dli D, dra D, true, dcr D + s.toInt64)
def b_comp (B : BS) (d : Nat) : BS := b_setD (b_mapX B (x_comp d (b_shr B d)) (bnr B)) d (d_comp (bD B d) (b_csum B d (b_shr B d) (bnr B)))
set_option maxRecDepth 100000 in
set_option maxHeartbeats 4000000 in
theorem cn_X10_complete_no {K : KX} {n : Nat} {h : MH} {c : Nat} {P : CS} (x : Cp h n c P) {i : Int32} (hi : b_in i 0 (nI (bnd (pB P)) - 1) = false) : Con K mX10_complete [.ref c, .int i] 1 6 n h (Thr "java/lang/IndexOutOfBoundsException" n h) := by
  obtain ⟨ba, sa, Sp, S, H, A, V, Kx, x, xfc, xfp⟩ := x
  obtain ⟨c0, bd, sp, sv, ins, pf, mt, sh, tx, rd, ad, nn⟩ := id x
  have b0 := bd.1
  have b5 := bd.2.2.2.2.2.1
  have b6 := bd.2.2.2.2.2.2
  have adr := x.adr
  refine Con.of (by decide +kernel) (Nat.le_of_ble_eq_true rfl) ?_
  refine mj_aload_n 0 dX10_complete_0 rfl ?_
  refine mj_getf dX10_complete_1 fgX10_12 (by repeat (first | assumption | exact mup_s _ _ _ | rw [mup_n _ _ (by omega)])) rfl ?_
  refine mj_iload_n 1 dX10_complete_4 rfl ?_
  exact mj_tV [_] (RX0, TX0, 5) dX10_complete_5 cwX0_driver lkX10_99 b0 rfl rfl rfl rfl rfl (cn_X0_driver_no bd hi) ⟨Nat.le_of_ble_eq_true rfl, Nat.le_of_ble_eq_true rfl, Nat.le_of_ble_eq_true rfl, Nat.le_of_ble_eq_true rfl, Nat.le_of_ble_eq_true rfl⟩ (fun n9 h9 q1 q2 => ⟨rfl, q1, q2⟩)
set_option maxRecDepth 100000 in
set_option maxHeartbeats 4000000 in
theorem cn_X10_complete_done {K : KX} {n : Nat} {h : MH} {c : Nat} {P : CS} (x : Cp h n c P) {i : Int32} {d : Nat} (hi : i = nI d) (hd : d < bnd (pB P)) (hs : ddo (bD (pB P) d) = true) : Con K mX10_complete [.ref c, .int i] 1 6 n h (Thr "java/lang/IllegalStateException" n h) := by
  obtain ⟨ba, sa, Sp, S, H, A, V, Kx, x, xfc, xfp⟩ := x
  obtain ⟨c0, bd, sp, sv, ins, pf, mt, sh, tx, rd, ad, nn⟩ := id x
  have b0 := bd.1
  have b5 := bd.2.2.2.2.2.1
  have b6 := bd.2.2.2.2.2.2
  have adr := x.adr
  obtain ⟨de, dt⟩ := bd.2.2.2.1 d (by omega)
  have dt0 := dt.1
  refine Con.of (by decide +kernel) (Nat.le_of_ble_eq_true rfl) ?_
  refine mj_aload_n 0 dX10_complete_0 rfl ?_
  refine mj_getf dX10_complete_1 fgX10_12 (by repeat (first | assumption | exact mup_s _ _ _ | rw [mup_n _ _ (by omega)])) rfl ?_
  refine mj_iload_n 1 dX10_complete_4 rfl ?_
  refine mj_cV1 [_] (RX0, TX0, 5) dX10_complete_5 cwX0_driver lkX10_99 (bd.1) rfl rfl rfl rfl (cn_X0_driver bd (j := d) hi hd) ⟨Nat.le_of_ble_eq_true rfl, Nat.le_of_ble_eq_true rfl, Nat.le_of_ble_eq_true rfl, Nat.le_of_ble_eq_true rfl, Nat.le_of_ble_eq_true rfl⟩ (fun h' e' => ?_)
  subst h'
  refine mj_astore_n (ls' := [(2, _), (0, _), (1, _)]) dX10_complete_8 (Nat.le_of_ble_eq_true rfl) rfl ?_
  refine mj_aload_n 0 dX10_complete_9 rfl ?_
  refine mj_getf dX10_complete_10 fgX10_109 (by repeat (first | assumption | exact mup_s _ _ _ | rw [mup_n _ _ (by omega)])) rfl ?_
  refine mj_if_eq 27 dX10_complete_13 (by decide) (fun c_13 => ?_) (fun c_13 => ?_)
  · exact absurd (hs.symm.trans (bI_0.mp c_13)) (by decide)
  · exact mj_throwSW (text := "the driver is done already") dX10_complete_16 dX10_complete_19 dX10_complete_20 dX10_complete_23 dX10_complete_26 thX10_80_84 (show (("Carpool", 270, "the driver is done already") : String × Nat × String) ∈ strK by decide +kernel) rfl (Nat.le_of_ble_eq_true rfl) (Nat.le_of_ble_eq_true rfl) (Nat.le_of_ble_eq_true rfl) (Nat.le_of_ble_eq_true rfl) (fun n9 h9 => ⟨rfl, h9, rfl⟩)
set_option maxRecDepth 100000 in
set_option maxHeartbeats 4000000 in
theorem cn_X10_complete {K : KX} {n : Nat} {h : MH} {c : Nat} {P : CS} (x : Cp h n c P) {i : Int32} {d : Nat} (hi : i = nI d) (hd : d < bnd (pB P)) (ht : 2 ≤ rn (bT (pB P) d)) (hs : ddo (bD (pB P) d) = false) : Con K mX10_complete [.ref c, .int i] 0 0 n h (RetP (some (.int (b_csum (pB P) d (b_shr (pB P) d) (bnr (pB P))))) n (fun h' => CpE h h' n c (p_setB P (b_comp (pB P) d)))) := by
  refine Con.of (by decide +kernel) (Nat.le_of_ble_eq_true rfl) ?_
  obtain ⟨ba, sa, Sp, S, H, A, V, Kx, x, xfc, xfp⟩ := x
  obtain ⟨c0, bd, sp, sv, ins, pf, mt, sh, tx, rd, ad, nn⟩ := id x
  have b0 := bd.1
  have b5 := bd.2.2.2.2.2.1
  have b6 := bd.2.2.2.2.2.2
  have adr := x.adr
  obtain ⟨de, dt⟩ := bd.2.2.2.1 d (by omega)
  have dt0 := dt.1
  have hO : ∀ k, k < 20 → vo (v_div V (bT (pB P) d) (dra (bD (pB P) d))) k = b_shr (pB P) d k := fun k hk => (v_div_ag V _ (bT (pB P) d) (dra (bD (pB P) d))).1 k hk
  have loop : ∀ (f : Nat) (k : Nat) (v : Int32) (g : MH), k + f = bnr (pB P) → b_csum (pB P) d (b_shr (pB P) d) k = v → Bd g ba (b_mapX (pB P) (x_comp d (b_shr (pB P) d)) k) → Sh g (c + 168) (v_div V (bT (pB P) d) (dra (bD (pB P) d))) → Off2 ba (ba + 71) (c + 168) (c + 172) h g → GG (K, mX10_complete, 0, 0, RetP (some (.int (b_csum (pB P) d (b_shr (pB P) d) (bnr (pB P))))) n (fun h' => CpE h h' n c (p_setB P (b_comp (pB P) d)))) 0 0 40 [(4, .int (nI k)), (3, .int v), (2, .ref (ba + 3 + 6 * d)), (0, .ref c), (1, .int i)] [] n g := by
    intro f
    induction f with
    | zero =>
      intro k v g hk hv bd9 s8 o
      have c09 : g c = some (cpC c ba sa) := (o _ (by omega) (by omega)).trans c0
      have b09 := bd9.1
      have de9 : g (ba + 3 + 6 * d) = some (drC (nI d) (ba + 3 + 6 * d) (bD (pB P) d)) := (bd9.2.2.2.1 d (by omega)).1
      refine mj_iload 0 dX10_complete_40 rfl ?_
      refine mj_aload_n 3 dX10_complete_42 rfl ?_
      refine mj_getf dX10_complete_43 fgX10_12 (by repeat (first | assumption | exact mup_s _ _ _ | rw [mup_n _ _ (by omega)])) rfl ?_
      refine mj_getf dX10_complete_46 fgX10_150 (by repeat (first | assumption | exact mup_s _ _ _ | rw [mup_n _ _ (by omega)])) rfl ?_
      refine mj_icmp_ge 121 dX10_complete_49 (by decide) (fun c_49 => ?_) (fun c_49 => ?_)
      · refine mj_aload_n 2 dX10_complete_121 rfl ?_
        refine mj_dup dX10_complete_122 rfl ?_
        refine mj_getf dX10_complete_123 fgX10_247 (by repeat (first | assumption | exact mup_s _ _ _ | rw [mup_n _ _ (by omega)])) rfl ?_
        refine mj_iload_n 1 dX10_complete_126 rfl ?_
        refine mj_i2l dX10_complete_127 rfl ?_
        refine mj_ladd dX10_complete_128 ?_
        refine mj_putf dX10_complete_129 fgX10_247 (by repeat (first | assumption | exact mup_s _ _ _ | rw [mup_n _ _ (by omega)])) rfl rfl rfl (Nat.le_of_ble_eq_true rfl) rfl ?_
        have z1 := bd9.setD (h' := mup g (ba + 3 + 6 * d) (drC (nI d) (ba + 3 + 6 * d) (d_cr (bD (pB P) d) (dcr (bD (pB P) d) + v.toInt64)))) (D := d_cr (bD (pB P) d) (dcr (bD (pB P) d) + v.toInt64)) (d := d) (by omega) (mup_s _ _ _) (Off.m0 _ (by omega) (by omega))
        refine mj_aload_n 2 dX10_complete_132 rfl ?_
        refine mj_iconst (v := 1) dX10_complete_133 rfl ?_
        refine mj_putf dX10_complete_134 fgX10_109 (by repeat (first | assumption | exact mup_s _ _ _ | rw [mup_n _ _ (by omega)])) rfl rfl rfl (Nat.le_of_ble_eq_true rfl) rfl ?_
        have z2 := bd9.setD (h' := mup (mup g (ba + 3 + 6 * d) (drC (nI d) (ba + 3 + 6 * d) (d_cr (bD (pB P) d) (dcr (bD (pB P) d) + v.toInt64)))) (ba + 3 + 6 * d) (drC (nI d) (ba + 3 + 6 * d) (d_comp (bD (pB P) d) v))) (D := d_comp (bD (pB P) d) v) (d := d) (by omega) (mup_s _ _ _) ((Off.m0 _ (by omega) (by omega)).m _ (by omega) (by omega))
        have oo : Off ba (ba + 71) g (mup (mup g (ba + 3 + 6 * d) (drC (nI d) (ba + 3 + 6 * d) (d_cr (bD (pB P) d) (dcr (bD (pB P) d) + v.toInt64)))) (ba + 3 + 6 * d) (drC (nI d) (ba + 3 + 6 * d) (d_comp (bD (pB P) d) v))) := (Off.m0 _ (by omega) (by omega)).m _ (by omega) (by omega)
        have s9 := s8.off oo (by omega)
        have o9 := o.tr oo.to1
        have ek : k = bnr (pB P) := by omega
        subst ek
        subst hv
        refine mj_iload_n 1 dX10_complete_137 rfl ?_
        exact mj_iret dX10_complete_138 rfl (Nat.le_of_ble_eq_true rfl) (Nat.le_of_ble_eq_true rfl) ⟨rfl, rfl, (⟨ba, sa, Sp, S, H, A, _, Kx, x.bd z2 (ins.at fun q h1 h2 => o9 q (by omega) (by omega)) (pf.at fun q h1 h2 => o9 q (by omega) (by omega)) (mt.at fun q h1 h2 => o9 q (by omega) (by omega)) s9 (fun q h1 h2 => o9 q (by omega) (by omega)), xfc, xfp⟩ : Cp _ n c (p_setB P (b_comp (pB P) d))), fun q hq => o9 q (by omega) (by omega)⟩
      · exact absurd (nI_le (show bnr (pB P) ≤ k by omega) (by omega)) c_49
    | succ f ih =>
      intro k v g hk hv bd9 s8 o
      have c09 : g c = some (cpC c ba sa) := (o _ (by omega) (by omega)).trans c0
      have b09 := bd9.1
      have de9 : g (ba + 3 + 6 * d) = some (drC (nI d) (ba + 3 + 6 * d) (bD (pB P) d)) := (bd9.2.2.2.1 d (by omega)).1
      have re9 := bd9.2.2.2.2.1 k (by omega)
      rw [b_mapX_k] at re9
      have s80 := s8.1
      have s81 := s8.2.1
      refine mj_iload 0 dX10_complete_40 rfl ?_
      refine mj_aload_n 3 dX10_complete_42 rfl ?_
      refine mj_getf dX10_complete_43 fgX10_12 (by repeat (first | assumption | exact mup_s _ _ _ | rw [mup_n _ _ (by omega)])) rfl ?_
      refine mj_getf dX10_complete_46 fgX10_150 (by repeat (first | assumption | exact mup_s _ _ _ | rw [mup_n _ _ (by omega)])) rfl ?_
      refine mj_icmp_ge 121 dX10_complete_49 (by decide) (fun c_49 => ?_) (fun c_49 => ?_)
      · exact absurd c_49 (nI_ge (show k < bnr (pB P) by omega) (show bnr (pB P) < 2147483648 by omega))
      · refine mj_aload_n 3 dX10_complete_52 rfl ?_
        refine mj_getf dX10_complete_53 fgX10_12 (by repeat (first | assumption | exact mup_s _ _ _ | rw [mup_n _ _ (by omega)])) rfl ?_
        refine mj_iload 0 dX10_complete_56 rfl ?_
        refine mj_cV1 [_] (RX0, TX0, 5) dX10_complete_58 cwX0_rider lkX10_152 b09 rfl rfl rfl rfl (cn_X0_rider bd9 (j := k) rfl (show k < bnr (pB P) by omega)) ⟨Nat.le_of_ble_eq_true rfl, Nat.le_of_ble_eq_true rfl, Nat.le_of_ble_eq_true rfl, Nat.le_of_ble_eq_true rfl, Nat.le_of_ble_eq_true rfl⟩ (fun h' e' => ?_)
        subst h'
        refine mj_astore (ls' := [(5, _), (4, _), (3, _), (2, _), (0, _), (1, _)]) dX10_complete_61 (Nat.le_of_ble_eq_true rfl) rfl ?_
        refine mj_aload 0 dX10_complete_63 rfl ?_
        refine mj_getf dX10_complete_65 fgX10_159 (by repeat (first | assumption | exact mup_s _ _ _ | rw [mup_n _ _ (by omega)])) rfl ?_
        refine mj_aload_n 3 dX10_complete_68 rfl ?_
        refine mj_getf dX10_complete_69 fgX10_95 (by repeat (first | assumption | exact mup_s _ _ _ | rw [mup_n _ _ (by omega)])) rfl ?_
        refine mj_icmp_ne 115 dX10_complete_72 (by decide) (fun c_72 => ?_) (fun c_72 => ?_)
        · refine mj_iinc (ls' := [(4, _), (5, _), (3, _), (2, _), (0, _), (1, _)]) 1 dX10_complete_115 rfl (nI_s _) (Nat.le_of_ble_eq_true rfl) rfl ?_
          refine mj_goto 40 dX10_complete_118 (by decide) ?_
          exact mj_ls [0, 2, 3, 4, 5] rfl (ih (k + 1) v _ (by omega) (by unfold b_csum; rw [if_neg c_72, hv]) (by rw [b_mapX_same _ _ _ (if_neg c_72)]; exact bd9) s8 o)
        · refine mj_aload 0 dX10_complete_75 rfl ?_
          refine mj_dup dX10_complete_77 rfl ?_
          refine mj_getf dX10_complete_78 fgX10_243 (by repeat (first | assumption | exact mup_s _ _ _ | rw [mup_n _ _ (by omega)])) rfl ?_
          refine mj_aload_n 4 dX10_complete_81 rfl ?_
          refine mj_getf dX10_complete_82 fgX10_47 (by repeat (first | assumption | exact mup_s _ _ _ | rw [mup_n _ _ (by omega)])) rfl ?_
          refine mj_getf dX10_complete_85 fgX10_264 (by repeat (first | assumption | exact mup_s _ _ _ | rw [mup_n _ _ (by omega)])) rfl ?_
          refine mj_iload 1 dX10_complete_88 rfl ?_
          refine mj_iald (by repeat (first | assumption | exact mup_s _ _ _ | rw [mup_n _ _ (by omega)])) (by first | assumption | rfl | exact ixn (by omega)) (by omega) dX10_complete_90 ?_
          rw [hO k (by omega)]
          refine mj_i2l dX10_complete_91 rfl ?_
          refine mj_lsub dX10_complete_92 ?_
          refine mj_putf dX10_complete_93 fgX10_243 (by repeat (first | assumption | exact mup_s _ _ _ | rw [mup_n _ _ (by omega)])) rfl rfl rfl (Nat.le_of_ble_eq_true rfl) rfl ?_
          refine mj_aload 0 dX10_complete_96 rfl ?_
          refine mj_iconst (v := 3) dX10_complete_98 rfl ?_
          refine mj_putf dX10_complete_99 fgX10_156 (by repeat (first | assumption | exact mup_s _ _ _ | rw [mup_n _ _ (by omega)])) rfl rfl rfl (Nat.le_of_ble_eq_true rfl) rfl ?_
          refine mj_iload_n 2 dX10_complete_102 rfl ?_
          refine mj_aload_n 4 dX10_complete_103 rfl ?_
          refine mj_getf dX10_complete_104 fgX10_47 (by repeat (first | assumption | exact mup_s _ _ _ | rw [mup_n _ _ (by omega)])) rfl ?_
          refine mj_getf dX10_complete_107 fgX10_264 (by repeat (first | assumption | exact mup_s _ _ _ | rw [mup_n _ _ (by omega)])) rfl ?_
          refine mj_iload 1 dX10_complete_110 rfl ?_
          refine mj_iald (by repeat (first | assumption | exact mup_s _ _ _ | rw [mup_n _ _ (by omega)])) (by first | assumption | rfl | exact ixn (by omega)) (by omega) dX10_complete_112 ?_
          rw [hO k (by omega)]
          refine mj_iadd dX10_complete_113 ?_
          refine mj_istore_n (ls' := [(3, _), (5, _), (4, _), (2, _), (0, _), (1, _)]) dX10_complete_114 (Nat.le_of_ble_eq_true rfl) rfl ?_
          refine mj_iinc (ls' := [(4, _), (3, _), (5, _), (2, _), (0, _), (1, _)]) 2 dX10_complete_115 rfl (nI_s _) (Nat.le_of_ble_eq_true rfl) rfl ?_
          refine mj_goto 40 dX10_complete_118 (by decide) ?_
          have oo : Off ba (ba + 71) g (mup (mup g (ba + 51 + k) (rdC (nI k) (x_cr (bX (pB P) k) (qcr (bX (pB P) k) - (b_shr (pB P) d k).toInt64)))) (ba + 51 + k) (rdC (nI k) (x_st (x_cr (bX (pB P) k) (qcr (bX (pB P) k) - (b_shr (pB P) d k).toInt64)) 3))) := (Off.m0 _ (by omega) (by omega)).m _ (by omega) (by omega)
          exact mj_ls [0, 1, 3, 4, 5] rfl (ih (k + 1) _ _ (by omega) (by conv => lhs; unfold b_csum; rw [if_pos c_72, hv]) (by rw [← b_mapX_go, show x_comp d (b_shr (pB P) d) k (bX (pB P) k) = x_st (x_cr (bX (pB P) k) (qcr (bX (pB P) k) - (b_shr (pB P) d k).toInt64)) 3 from if_pos c_72]; exact bd9.setX (by omega) (mup_s _ _ _) ((Off.m0 _ (by omega) (by omega)).m _ (by omega) (by omega))) (s8.off oo (by omega)) (o.tr oo.to1))
  refine mj_aload_n 0 dX10_complete_0 rfl ?_
  refine mj_getf dX10_complete_1 fgX10_12 (by repeat (first | assumption | exact mup_s _ _ _ | rw [mup_n _ _ (by omega)])) rfl ?_
  refine mj_iload_n 1 dX10_complete_4 rfl ?_
  refine mj_cV1 [_] (RX0, TX0, 5) dX10_complete_5 cwX0_driver lkX10_99 (bd.1) rfl rfl rfl rfl (cn_X0_driver bd (j := d) hi hd) ⟨Nat.le_of_ble_eq_true rfl, Nat.le_of_ble_eq_true rfl, Nat.le_of_ble_eq_true rfl, Nat.le_of_ble_eq_true rfl, Nat.le_of_ble_eq_true rfl⟩ (fun h' e' => ?_)
  subst h'
  refine mj_astore_n (ls' := [(2, _), (0, _), (1, _)]) dX10_complete_8 (Nat.le_of_ble_eq_true rfl) rfl ?_
  refine mj_aload_n 0 dX10_complete_9 rfl ?_
  refine mj_getf dX10_complete_10 fgX10_109 (by repeat (first | assumption | exact mup_s _ _ _ | rw [mup_n _ _ (by omega)])) rfl ?_
  refine mj_if_eq 27 dX10_complete_13 (by decide) (fun c_13 => ?_) (fun c_13 => ?_)
  · refine mj_aload_n 1 dX10_complete_27 rfl ?_
    refine mj_getf dX10_complete_28 fgX10_47 (by repeat (first | assumption | exact mup_s _ _ _ | rw [mup_n _ _ (by omega)])) rfl ?_
    refine mj_aload_n 0 dX10_complete_31 rfl ?_
    refine mj_cV0 [_] (RX9, TX9, 4) dX10_complete_32 cwX9_divide lkX10_260 (sh.1) rfl rfl rfl rfl (cn_X9_divide sh ⟨de, dt⟩ (by omega) (by omega)) ⟨Nat.le_of_ble_eq_true rfl, Nat.le_of_ble_eq_true rfl, Nat.le_of_ble_eq_true rfl, Nat.le_of_ble_eq_true rfl, Nat.le_of_ble_eq_true rfl⟩ (fun h' e' => ?_)
    obtain ⟨s8, o8⟩ := e'
    refine mj_iconst (v := 0) dX10_complete_35 rfl ?_
    refine mj_istore_n (ls' := [(3, _), (2, _), (0, _), (1, _)]) dX10_complete_36 (Nat.le_of_ble_eq_true rfl) rfl ?_
    refine mj_iconst (v := 0) dX10_complete_37 rfl ?_
    refine mj_istore (ls' := [(4, _), (3, _), (2, _), (0, _), (1, _)]) dX10_complete_38 (Nat.le_of_ble_eq_true rfl) rfl ?_
    exact mj_ls [0, 1, 2, 3, 4] rfl (loop (bnr (pB P)) 0 0 _ (by omega) rfl (bd.off o8 (by omega)) s8 o8.to2)
  · exact absurd (hs.symm.trans (bI_n0.mp c_13)) (by decide)
