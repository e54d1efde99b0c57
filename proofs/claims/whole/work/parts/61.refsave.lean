def cpk (f f2 : Nat → Int32) (s t : Nat) : Nat → Nat → Int32
  | 0 => f2
  | k + 1 => upd (cpk f f2 s t k) (t + k) (f (s + k))
theorem cpk_v (f f2 : Nat → Int32) (s t : Nat) : ∀ k j, cpk f f2 s t k j = if t ≤ j ∧ j < t + k then f (s + (j - t)) else f2 j
  | 0, j => by rw [if_neg (by omega)]; rfl
  | k + 1, j => by
    show upd (cpk f f2 s t k) (t + k) (f (s + k)) j = _
    unfold upd
    rw [cpk_v f f2 s t k j]
    by_cases e : j = t + k
    · rw [if_pos e, if_pos (by omega), show s + (j - t) = s + k by omega]
    · rw [if_neg e]
      by_cases e2 : t ≤ j ∧ j < t + k
      · rw [if_pos e2, if_pos (by omega)]
      · rw [if_neg e2, if_neg (by omega)]
def cpkL (f f2 : Nat → Int64) (s t : Nat) : Nat → Nat → Int64
  | 0 => f2
  | k + 1 => vp_updL (cpkL f f2 s t k) (t + k) (f (s + k))
theorem cpkL_v (f f2 : Nat → Int64) (s t : Nat) : ∀ k j, cpkL f f2 s t k j = if t ≤ j ∧ j < t + k then f (s + (j - t)) else f2 j
  | 0, j => by rw [if_neg (by omega)]; rfl
  | k + 1, j => by
    show vp_updL (cpkL f f2 s t k) (t + k) (f (s + k)) j = _
    unfold vp_updL
    rw [cpkL_v f f2 s t k j]
    by_cases e : j = t + k
    · rw [if_pos e, if_pos (by omega), show s + (j - t) = s + k by omega]
    · rw [if_neg e]
      by_cases e2 : t ≤ j ∧ j < t + k
      · rw [if_pos e2, if_pos (by omega)]
      · rw [if_neg e2, if_neg (by omega)]
set_option maxRecDepth 100000 in
set_option maxHeartbeats 4000000 in
theorem cn_X11_copyInts {K : KX} {n : Nat} {h : MH} {a b N N2 s t : Nat} {f f2 : Nat → Int32} (ha : h a = some (cI N f)) (hb : h b = some (cI N2 f2)) (hab : a ≠ b) (hN : s + 568 ≤ N) (hN2 : t + 568 ≤ N2) (hM : N ≤ 100000) (hM2 : N2 ≤ 100000) : Con K mX11_copyInts [.ref a, .int (nI s), .ref b, .int (nI t)] 0 0 n h (RetP none n (fun h9 => h9 = mup h b (cI N2 (cpk f f2 s t 568)))) := by
  refine Con.of (by decide +kernel) (Nat.le_of_ble_eq_true rfl) ?_
  have loop : ∀ (f9 : Nat) (k : Nat), k + f9 = 568 → GG (K, mX11_copyInts, 0, 0, RetP none n (fun h9 => h9 = mup h b (cI N2 (cpk f f2 s t 568)))) 0 0 3 [(4, .int (nI k)), (0, .ref a), (1, .int (nI s)), (2, .ref b), (3, .int (nI t))] [] n (mup h b (cI N2 (cpk f f2 s t k))) := by
    intro f9
    induction f9 with
    | zero =>
      intro k hk
      obtain rfl : k = 568 := by omega
      refine mj_iload 0 dX11_copyInts_3 rfl ?_
      refine mj_sipush (v := (568)) dX11_copyInts_5 rfl ?_
      refine mj_icmp_ge 29 dX11_copyInts_8 (by decide) (fun c_8 => ?_) (fun c_8 => ?_)
      · exact mj_vret dX11_copyInts_29 rfl (Nat.le_of_ble_eq_true rfl) (Nat.le_of_ble_eq_true rfl) ⟨rfl, rfl, rfl⟩
      · exact absurd (show nI 568 ≤ nI 568 from Int32.le_refl _) c_8
    | succ f9 ih =>
      intro k hk
      refine mj_iload 0 dX11_copyInts_3 rfl ?_
      refine mj_sipush (v := (568)) dX11_copyInts_5 rfl ?_
      refine mj_icmp_ge 29 dX11_copyInts_8 (by decide) (fun c_8 => ?_) (fun c_8 => ?_)
      · exact absurd (show nI 568 ≤ nI k from c_8) (nI_ge (by omega) (by omega))
      · refine mj_aload_n 3 dX11_copyInts_11 rfl ?_
        refine mj_iload_n 4 dX11_copyInts_12 rfl ?_
        refine mj_iload 0 dX11_copyInts_13 rfl ?_
        refine mj_iadd dX11_copyInts_15 ?_
        refine mj_eq (nI_add _ _) ?_
        refine mj_aload_n 1 dX11_copyInts_16 rfl ?_
        refine mj_iload_n 2 dX11_copyInts_17 rfl ?_
        refine mj_iload 0 dX11_copyInts_18 rfl ?_
        refine mj_iadd dX11_copyInts_20 ?_
        refine mj_eq (nI_add _ _) ?_
        refine mj_iald ((mup_n h _ hab).trans ha) (ixn (by omega)) (by omega) dX11_copyInts_21 ?_
        refine mj_iast (mup_s h b _) (ixn (by omega)) (by omega) dX11_copyInts_22 ?_
        rw [mup_mup]
        refine mj_iinc (ls' := [(4, _), (0, _), (1, _), (2, _), (3, _)]) 0 dX11_copyInts_23 rfl (nI_s _) (Nat.le_of_ble_eq_true rfl) rfl ?_
        refine mj_goto 3 dX11_copyInts_26 (by decide) ?_
        exact mj_ls [0, 1, 2, 3, 4] rfl (ih (k + 1) (by omega))
  refine mj_iconst (v := 0) dX11_copyInts_0 rfl ?_
  refine mj_istore (ls' := [(4, _), (0, _), (1, _), (2, _), (3, _)]) dX11_copyInts_1 (Nat.le_of_ble_eq_true rfl) rfl ?_
  exact mj_ls [0, 1, 2, 3, 4] rfl (by
    have q9 := loop 568 0 (by omega)
    rw [show mup h b (cI N2 (cpk f f2 s t 0)) = h from funext fun q => by unfold mup; split <;> first | (rename_i e; subst e; exact hb.symm) | rfl] at q9
    exact q9)
set_option maxRecDepth 100000 in
set_option maxHeartbeats 4000000 in
theorem cn_X11_copyCredits {K : KX} {n : Nat} {h : MH} {a b N N2 s t : Nat} {f f2 : Nat → Int64} (ha : h a = some (cJ N f)) (hb : h b = some (cJ N2 f2)) (hab : a ≠ b) (hN : s + 28 ≤ N) (hN2 : t + 28 ≤ N2) (hM : N ≤ 100000) (hM2 : N2 ≤ 100000) : Con K mX11_copyCredits [.ref a, .int (nI s), .ref b, .int (nI t)] 0 0 n h (RetP none n (fun h9 => h9 = mup h b (cJ N2 (cpkL f f2 s t 28)))) := by
  refine Con.of (by decide +kernel) (Nat.le_of_ble_eq_true rfl) ?_
  have loop : ∀ (f9 : Nat) (k : Nat), k + f9 = 28 → GG (K, mX11_copyCredits, 0, 0, RetP none n (fun h9 => h9 = mup h b (cJ N2 (cpkL f f2 s t 28)))) 0 0 3 [(4, .int (nI k)), (0, .ref a), (1, .int (nI s)), (2, .ref b), (3, .int (nI t))] [] n (mup h b (cJ N2 (cpkL f f2 s t k))) := by
    intro f9
    induction f9 with
    | zero =>
      intro k hk
      obtain rfl : k = 28 := by omega
      refine mj_iload 0 dX11_copyCredits_3 rfl ?_
      refine mj_bipush (v := (28)) dX11_copyCredits_5 rfl ?_
      refine mj_icmp_ge 28 dX11_copyCredits_7 (by decide) (fun c_7 => ?_) (fun c_7 => ?_)
      · exact mj_vret dX11_copyCredits_28 rfl (Nat.le_of_ble_eq_true rfl) (Nat.le_of_ble_eq_true rfl) ⟨rfl, rfl, rfl⟩
      · exact absurd (show nI 28 ≤ nI 28 from Int32.le_refl _) c_7
    | succ f9 ih =>
      intro k hk
      refine mj_iload 0 dX11_copyCredits_3 rfl ?_
      refine mj_bipush (v := (28)) dX11_copyCredits_5 rfl ?_
      refine mj_icmp_ge 28 dX11_copyCredits_7 (by decide) (fun c_7 => ?_) (fun c_7 => ?_)
      · exact absurd (show nI 28 ≤ nI k from c_7) (nI_ge (by omega) (by omega))
      · refine mj_aload_n 3 dX11_copyCredits_10 rfl ?_
        refine mj_iload_n 4 dX11_copyCredits_11 rfl ?_
        refine mj_iload 0 dX11_copyCredits_12 rfl ?_
        refine mj_iadd dX11_copyCredits_14 ?_
        refine mj_eq (nI_add _ _) ?_
        refine mj_aload_n 1 dX11_copyCredits_15 rfl ?_
        refine mj_iload_n 2 dX11_copyCredits_16 rfl ?_
        refine mj_iload 0 dX11_copyCredits_17 rfl ?_
        refine mj_iadd dX11_copyCredits_19 ?_
        refine mj_eq (nI_add _ _) ?_
        refine mj_lald ((mup_n h _ hab).trans ha) (ixn (by omega)) (by omega) dX11_copyCredits_20 ?_
        refine mj_last (mup_s h b _) (ixn (by omega)) (by omega) dX11_copyCredits_21 ?_
        rw [mup_mup]
        refine mj_iinc (ls' := [(4, _), (0, _), (1, _), (2, _), (3, _)]) 0 dX11_copyCredits_22 rfl (nI_s _) (Nat.le_of_ble_eq_true rfl) rfl ?_
        refine mj_goto 3 dX11_copyCredits_25 (by decide) ?_
        exact mj_ls [0, 1, 2, 3, 4] rfl (ih (k + 1) (by omega))
  refine mj_iconst (v := 0) dX11_copyCredits_0 rfl ?_
  refine mj_istore (ls' := [(4, _), (0, _), (1, _), (2, _), (3, _)]) dX11_copyCredits_1 (Nat.le_of_ble_eq_true rfl) rfl ?_
  exact mj_ls [0, 1, 2, 3, 4] rfl (by
    have q9 := loop 28 0 (by omega)
    rw [show mup h b (cJ N2 (cpkL f f2 s t 0)) = h from funext fun q => by unfold mup; split <;> first | (rename_i e; subst e; exact hb.symm) | rfl] at q9
    exact q9)
def filL (f : Nat → Int64) (v : Int64) (k : Nat) : Nat → Int64 := fun j => if j < k then v else f j
theorem filL_go (f : Nat → Int64) (v : Int64) (k : Nat) : vp_updL (filL f v k) k v = filL f v (k + 1) := by
  funext j
  unfold vp_updL filL
  by_cases e : j = k
  · rw [if_pos e, if_pos (by omega)]
  · rw [if_neg e]
    by_cases e2 : j < k
    · rw [if_pos e2, if_pos (by omega)]
    · rw [if_neg e2, if_neg (by omega)]
def clrG (g : Nat → Int32) : Nat → Int32 := upd (fil g 0 568) 0 500
def clrC (c : Nat → Int64) : Nat → Int64 := filL c 0 28
set_option maxRecDepth 100000 in
set_option maxHeartbeats 4000000 in
theorem cs_clearBoard {K : KX} {n : Nat} {h : MH} {h0 : MH} {m : Nat} {M : MS} (x : Ms h0 m M h)  : Con K mX11_clearBoard [.ref m] 0 0 n h (RetP none n (Ms h0 m (nmS M (clrG (gbrd M)) (clrC (gcrd M))))) := by
  refine Con.of (by decide +kernel) (Nat.le_of_ble_eq_true rfl) ?_
  have l2 : ∀ (f : Nat) (k : Nat) (h1 : MH), k + f = 28 → Ms h0 m (nmS M (fil (gbrd M) 0 568) (filL (gcrd M) 0 k)) h1 → GG (K, mX11_clearBoard, 0, 0, RetP none n (Ms h0 m (nmS M (clrG (gbrd M)) (clrC (gcrd M))))) 0 0 24 [(1, .int (nI k)), (0, .ref m)] [] n h1 := by
    intro f
    induction f with
    | zero =>
      intro k h1 hk x
      obtain rfl : k = 28 := by omega
      refine mj_iload_n 0 dX11_clearBoard_24 rfl ?_
      refine mj_bipush (v := (28)) dX11_clearBoard_25 rfl ?_
      refine mj_icmp_ge 43 dX11_clearBoard_27 (by decide) (fun c_27 => ?_) (fun c_27 => ?_)
      · refine mj_aload_n 1 dX11_clearBoard_43 rfl ?_
        refine mS_gbrd dX11_clearBoard_44 fgX11_7 x ?_
        refine mj_iconst (v := 0) dX11_clearBoard_47 rfl ?_
        refine mj_sipush (v := (500)) dX11_clearBoard_48 rfl ?_
        refine mS_abrd x ((show (0 : Int32).toInt = ((0 : Nat) : Int) from rfl)) (by first | assumption | omega | decide) dX11_clearBoard_51 (fun h x => ?_)
        rw [nmS_b] at x
        exact mj_vret dX11_clearBoard_52 rfl (Nat.le_of_ble_eq_true rfl) (Nat.le_of_ble_eq_true rfl) ⟨rfl, rfl, x⟩
      · exact absurd (show nI 28 ≤ nI 28 from Int32.le_refl _) c_27
    | succ f ih =>
      intro k h1 hk x
      refine mj_iload_n 0 dX11_clearBoard_24 rfl ?_
      refine mj_bipush (v := (28)) dX11_clearBoard_25 rfl ?_
      refine mj_icmp_ge 43 dX11_clearBoard_27 (by decide) (fun c_27 => ?_) (fun c_27 => ?_)
      · exact absurd (show nI 28 ≤ nI k from c_27) (nI_ge (by omega) (by omega))
      · refine mj_aload_n 1 dX11_clearBoard_30 rfl ?_
        refine mS_gcrd dX11_clearBoard_31 fgX11_19 x ?_
        refine mj_iload_n 0 dX11_clearBoard_34 rfl ?_
        refine mj_lconst (v := 0) dX11_clearBoard_35 rfl ?_
        refine mS_acrd x (ixn (by omega)) (by first | assumption | omega | decide) dX11_clearBoard_36 (fun h x => ?_)
        rw [nmS_c] at x
        refine mj_iinc (ls' := [(1, _), (0, _)]) 0 dX11_clearBoard_37 rfl (nI_s _) (Nat.le_of_ble_eq_true rfl) rfl ?_
        refine mj_goto 24 dX11_clearBoard_40 (by decide) ?_
        exact mj_ls [0, 1] rfl (ih (k + 1) _ (by omega) (by rw [← filL_go]; exact x))
  have l1 : ∀ (f : Nat) (k : Nat) (h1 : MH), k + f = 568 → Ms h0 m (nmS M (fil (gbrd M) 0 k) (gcrd M)) h1 → GG (K, mX11_clearBoard, 0, 0, RetP none n (Ms h0 m (nmS M (clrG (gbrd M)) (clrC (gcrd M))))) 0 0 2 [(1, .int (nI k)), (0, .ref m)] [] n h1 := by
    intro f
    induction f with
    | zero =>
      intro k h1 hk x
      obtain rfl : k = 568 := by omega
      refine mj_iload_n 0 dX11_clearBoard_2 rfl ?_
      refine mj_sipush (v := (568)) dX11_clearBoard_3 rfl ?_
      refine mj_icmp_ge 22 dX11_clearBoard_6 (by decide) (fun c_6 => ?_) (fun c_6 => ?_)
      · refine mj_iconst (v := 0) dX11_clearBoard_22 rfl ?_
        refine mj_istore_n (ls' := [(1, _), (0, _)]) dX11_clearBoard_23 (Nat.le_of_ble_eq_true rfl) rfl ?_
        exact mj_ls [0, 1] rfl (l2 28 0 _ (by omega) (by rw [show filL (gcrd M) 0 0 = gcrd M from funext fun j => if_neg (Nat.not_lt_zero j)]; exact x))
      · exact absurd (show nI 568 ≤ nI 568 from Int32.le_refl _) c_6
    | succ f ih =>
      intro k h1 hk x
      refine mj_iload_n 0 dX11_clearBoard_2 rfl ?_
      refine mj_sipush (v := (568)) dX11_clearBoard_3 rfl ?_
      refine mj_icmp_ge 22 dX11_clearBoard_6 (by decide) (fun c_6 => ?_) (fun c_6 => ?_)
      · exact absurd (show nI 568 ≤ nI k from c_6) (nI_ge (by omega) (by omega))
      · refine mj_aload_n 1 dX11_clearBoard_9 rfl ?_
        refine mS_gbrd dX11_clearBoard_10 fgX11_7 x ?_
        refine mj_iload_n 0 dX11_clearBoard_13 rfl ?_
        refine mj_iconst (v := 0) dX11_clearBoard_14 rfl ?_
        refine mS_abrd x (ixn (by omega)) (by first | assumption | omega | decide) dX11_clearBoard_15 (fun h x => ?_)
        rw [nmS_b] at x
        refine mj_iinc (ls' := [(1, _), (0, _)]) 0 dX11_clearBoard_16 rfl (nI_s _) (Nat.le_of_ble_eq_true rfl) rfl ?_
        refine mj_goto 2 dX11_clearBoard_19 (by decide) ?_
        exact mj_ls [0, 1] rfl (ih (k + 1) _ (by omega) (by rw [← fil_go]; exact x))
  refine mj_iconst (v := 0) dX11_clearBoard_0 rfl ?_
  refine mj_istore_n (ls' := [(1, _), (0, _)]) dX11_clearBoard_1 (Nat.le_of_ble_eq_true rfl) rfl ?_
  exact mj_ls [0, 1] rfl (l1 568 0 _ (by omega) (by rw [show fil (gbrd M) 0 0 = gbrd M from funext fun j => if_neg (Nat.not_lt_zero j), nmS_id]; exact x))
set_option maxRecDepth 100000 in
set_option maxHeartbeats 4000000 in
theorem cs_save_no {K : KX} {n : Nat} {h : MH} {h0 : MH} {m : Nat} {M : MS} (x : Ms h0 m M h) {i : Int32} (hb : b_in i 0 1 = false) : Con K mX11_save [.ref m, .int i] 0 0 n h (RetP (none) n (Ms h0 m (sthr M 1))) := by
  refine Con.of (by decide +kernel) (Nat.le_of_ble_eq_true rfl) ?_
  refine mj_aload_n 0 dX11_save_0 rfl ?_
  refine mj_iload_n 1 dX11_save_1 rfl ?_
  refine mj_iconst (v := 0) dX11_save_2 rfl ?_
  refine mj_iconst (v := 1) dX11_save_3 rfl ?_
  refine mj_cS1 [_, _, _] dX11_save_4 cwX11_isBetween lkX11_64 rfl (cn_X11_isBetween _ _ _) ⟨Nat.le_of_ble_eq_true rfl, Nat.le_of_ble_eq_true rfl, Nat.le_of_ble_eq_true rfl, Nat.le_of_ble_eq_true rfl, Nat.le_of_ble_eq_true rfl⟩ (fun h' e' => ?_)
  subst h'
  refine mj_if_eq 14 dX11_save_7 (by decide) (fun c_7 => ?_) (fun c_7 => ?_)
  · refine mj_iconst (v := 1) dX11_save_14 rfl ?_
    refine mS_pthr dX11_save_15 fgX11_61 x (fun h x => ?_)
    refine mj_aload_n 0 dX11_save_18 rfl ?_
    refine mS_gthr dX11_save_19 fgX11_61 x ?_
    refine mj_if_ne 65 dX11_save_22 (by decide) (fun c_22 => ?_) (fun c_22 => ?_)
    · exact mj_vret dX11_save_65 rfl (Nat.le_of_ble_eq_true rfl) (Nat.le_of_ble_eq_true rfl) ⟨rfl, rfl, x⟩
    · exact absurd c_22 (show ¬ (1 : Int32) = 0 by decide)
  · exact absurd ((bI_n0.mp c_7).symm.trans hb) (by decide)
set_option maxRecDepth 100000 in
set_option maxHeartbeats 4000000 in
theorem cs_save {K : KX} {n : Nat} {h : MH} {h0 : MH} {m : Nat} {M : MS} (x : Ms h0 m M h) {s : Nat} (h2 : s < 2) (hb : b_in (nI s) 0 1 = true) : Con K mX11_save [.ref m, .int (nI s)] 0 0 n h (RetP (none) n (Ms h0 m (siss (scsv (ssav (sthr M 0) (cpk (gbrd M) (gsav M) 0 (568 * s) 568)) (cpkL (gcrd M) (gcsv M) 0 (28 * s) 28)) (upd (giss M) s 1)))) := by
  refine Con.of (by decide +kernel) (Nat.le_of_ble_eq_true rfl) ?_
  obtain ⟨M9, x, sc⟩ := x
  refine mj_aload_n 0 dX11_save_0 rfl ?_
  refine mj_iload_n 1 dX11_save_1 rfl ?_
  refine mj_iconst (v := 0) dX11_save_2 rfl ?_
  refine mj_iconst (v := 1) dX11_save_3 rfl ?_
  refine mj_cS1 [_, _, _] dX11_save_4 cwX11_isBetween lkX11_64 rfl (cn_X11_isBetween _ _ _) ⟨Nat.le_of_ble_eq_true rfl, Nat.le_of_ble_eq_true rfl, Nat.le_of_ble_eq_true rfl, Nat.le_of_ble_eq_true rfl, Nat.le_of_ble_eq_true rfl⟩ (fun h' e' => ?_)
  subst h'
  refine mj_if_eq 14 dX11_save_7 (by decide) (fun c_7 => ?_) (fun c_7 => ?_)
  · exact absurd ((bI_0.mp c_7).symm.trans hb) (by decide)
  · refine mj_iconst (v := 0) dX11_save_10 rfl ?_
    refine mj_goto 15 dX11_save_11 (by decide) ?_
    refine mM_pthr dX11_save_15 fgX11_61 x (fun h x => ?_)
    refine mj_aload_n 0 dX11_save_18 rfl ?_
    refine mj_getf dX11_save_19 fgX11_61 x.ko rfl ?_
    refine mj_if_ne 65 dX11_save_22 (by decide) (fun c_22 => ?_) (fun c_22 => ?_)
    · exact absurd (show (0 : Int32) = 0 from rfl) c_22
    · refine mj_aload_n 0 dX11_save_25 rfl ?_
      refine mj_getf dX11_save_26 fgX11_7 x.ko rfl ?_
      refine mj_iconst (v := 0) dX11_save_29 rfl ?_
      refine mj_aload_n 0 dX11_save_30 rfl ?_
      refine mj_getf dX11_save_31 fgX11_16 x.ko rfl ?_
      refine mj_sipush (v := (568)) dX11_save_34 rfl ?_
      refine mj_iload_n 1 dX11_save_37 rfl ?_
      refine mj_imul dX11_save_38 ?_
      refine mj_eq (show (568 : Int32) * nI s = nI (568 * s) from nI_mul 568 s) ?_
      refine mj_cS0 [_, .int (nI (0)), _, .int (nI (568 * s))] dX11_save_39 cwX11_copyInts lkX11_355 rfl (cn_X11_copyInts x.kbrd x.ksav (by omega) (by omega) (by omega) (by omega) (by omega)) ⟨Nat.le_of_ble_eq_true rfl, Nat.le_of_ble_eq_true rfl, Nat.le_of_ble_eq_true rfl, Nat.le_of_ble_eq_true rfl, Nat.le_of_ble_eq_true rfl⟩ (fun h e' => ?_)
      subst e'
      have x := x.psav (cpk (gbrd M9) (gsav M9) 0 (568 * s) 568)
      refine mj_aload_n 0 dX11_save_42 rfl ?_
      refine mj_getf dX11_save_43 fgX11_19 x.ko rfl ?_
      refine mj_iconst (v := 0) dX11_save_46 rfl ?_
      refine mj_aload_n 0 dX11_save_47 rfl ?_
      refine mj_getf dX11_save_48 fgX11_26 x.ko rfl ?_
      refine mj_bipush (v := (28)) dX11_save_51 rfl ?_
      refine mj_iload_n 1 dX11_save_53 rfl ?_
      refine mj_imul dX11_save_54 ?_
      refine mj_eq (show (28 : Int32) * nI s = nI (28 * s) from nI_mul 28 s) ?_
      refine mj_cS0 [_, .int (nI (0)), _, .int (nI (28 * s))] dX11_save_55 cwX11_copyCredits lkX11_359 rfl (cn_X11_copyCredits x.kcrd x.kcsv (by omega) (by omega) (by omega) (by omega) (by omega)) ⟨Nat.le_of_ble_eq_true rfl, Nat.le_of_ble_eq_true rfl, Nat.le_of_ble_eq_true rfl, Nat.le_of_ble_eq_true rfl, Nat.le_of_ble_eq_true rfl⟩ (fun h e' => ?_)
      subst e'
      have x := x.pcsv (cpkL (gcrd M9) (gcsv M9) 0 (28 * s) 28)
      refine mj_aload_n 0 dX11_save_58 rfl ?_
      refine mj_getf dX11_save_59 fgX11_29 x.ko rfl ?_
      refine mj_iload_n 1 dX11_save_62 rfl ?_
      refine mj_iconst (v := 1) dX11_save_63 rfl ?_
      refine mM_aiss x (ixn (by omega)) h2 dX11_save_64 rfl (fun h x => ?_)
      exact mj_vret dX11_save_65 rfl (Nat.le_of_ble_eq_true rfl) (Nat.le_of_ble_eq_true rfl) ⟨rfl, rfl, (by
      have e1 : gbrd M9 = gbrd M := sc.b
      have e2 : gcrd M9 = gcrd M := sc.c
      have e3 : gsav M9 = gsav M := sc.a 3 rfl
      have e4 : gcsv M9 = gcsv M := sc.l 6
      have e5 : giss M9 = giss M := sc.z
      refine ⟨_, x, ?_⟩
      rw [e1, e2, e3, e4]
      rw [show giss (scsv (ssav (sthr M9 0) (cpk (gbrd M) (gsav M) 0 (568 * s) 568)) (cpkL (gcrd M) (gcsv M) 0 (28 * s) 28)) = giss M from e5]
      exact (((sc.sF 7 0).sA 3 _).sL 6 _).iss _)⟩
set_option maxRecDepth 100000 in
set_option maxHeartbeats 4000000 in
theorem cs_restore_no {K : KX} {n : Nat} {h : MH} {h0 : MH} {m : Nat} {M : MS} (x : Ms h0 m M h) {i : Int32} (hb : b_in i 0 1 = false) : Con K mX11_restore [.ref m, .int i] 0 0 n h (RetP (none) n (Ms h0 m (sthr M 1))) := by
  refine Con.of (by decide +kernel) (Nat.le_of_ble_eq_true rfl) ?_
  refine mj_aload_n 0 dX11_restore_0 rfl ?_
  refine mj_iload_n 1 dX11_restore_1 rfl ?_
  refine mj_iconst (v := 0) dX11_restore_2 rfl ?_
  refine mj_iconst (v := 1) dX11_restore_3 rfl ?_
  refine mj_cS1 [_, _, _] dX11_restore_4 cwX11_isBetween lkX11_64 rfl (cn_X11_isBetween _ _ _) ⟨Nat.le_of_ble_eq_true rfl, Nat.le_of_ble_eq_true rfl, Nat.le_of_ble_eq_true rfl, Nat.le_of_ble_eq_true rfl, Nat.le_of_ble_eq_true rfl⟩ (fun h' e' => ?_)
  subst h'
  refine mj_if_ne 14 dX11_restore_7 (by decide) (fun c_7 => ?_) (fun c_7 => ?_)
  · exact absurd ((bI_n0.mp c_7).symm.trans hb) (by decide)
  · refine mj_iconst (v := 1) dX11_restore_10 rfl ?_
    refine mj_goto 28 dX11_restore_11 (by decide) ?_
    refine mS_pthr dX11_restore_28 fgX11_61 x (fun h x => ?_)
    refine mj_aload_n 0 dX11_restore_31 rfl ?_
    refine mS_gthr dX11_restore_32 fgX11_61 x ?_
    refine mj_if_ne 71 dX11_restore_35 (by decide) (fun c_35 => ?_) (fun c_35 => ?_)
    · exact mj_vret dX11_restore_71 rfl (Nat.le_of_ble_eq_true rfl) (Nat.le_of_ble_eq_true rfl) ⟨rfl, rfl, x⟩
    · exact absurd c_35 (show ¬ (1 : Int32) = 0 by decide)
set_option maxRecDepth 100000 in
set_option maxHeartbeats 4000000 in
theorem cs_restore_none {K : KX} {n : Nat} {h : MH} {h0 : MH} {m : Nat} {M : MS} (x : Ms h0 m M h) {s : Nat} (h2 : s < 2) (hb : b_in (nI s) 0 1 = true) (hs : giss M s = 0) : Con K mX11_restore [.ref m, .int (nI s)] 0 0 n h (RetP (none) n (Ms h0 m (sthr M 2))) := by
  refine Con.of (by decide +kernel) (Nat.le_of_ble_eq_true rfl) ?_
  refine mj_aload_n 0 dX11_restore_0 rfl ?_
  refine mj_iload_n 1 dX11_restore_1 rfl ?_
  refine mj_iconst (v := 0) dX11_restore_2 rfl ?_
  refine mj_iconst (v := 1) dX11_restore_3 rfl ?_
  refine mj_cS1 [_, _, _] dX11_restore_4 cwX11_isBetween lkX11_64 rfl (cn_X11_isBetween _ _ _) ⟨Nat.le_of_ble_eq_true rfl, Nat.le_of_ble_eq_true rfl, Nat.le_of_ble_eq_true rfl, Nat.le_of_ble_eq_true rfl, Nat.le_of_ble_eq_true rfl⟩ (fun h' e' => ?_)
  subst h'
  refine mj_if_ne 14 dX11_restore_7 (by decide) (fun c_7 => ?_) (fun c_7 => ?_)
  · refine mj_aload_n 0 dX11_restore_14 rfl ?_
    refine mS_giss dX11_restore_15 fgX11_29 x ?_
    refine mj_iload_n 1 dX11_restore_18 rfl ?_
    refine mS_liss x (ixn (by omega)) h2 dX11_restore_19 ?_
    refine mj_if_ne 27 dX11_restore_20 (by decide) (fun c_20 => ?_) (fun c_20 => ?_)
    · exact absurd hs c_20
    · refine mj_iconst (v := 2) dX11_restore_23 rfl ?_
      refine mj_goto 28 dX11_restore_24 (by decide) ?_
      refine mS_pthr dX11_restore_28 fgX11_61 x (fun h x => ?_)
      refine mj_aload_n 0 dX11_restore_31 rfl ?_
      refine mS_gthr dX11_restore_32 fgX11_61 x ?_
      refine mj_if_ne 71 dX11_restore_35 (by decide) (fun c_35 => ?_) (fun c_35 => ?_)
      · exact mj_vret dX11_restore_71 rfl (Nat.le_of_ble_eq_true rfl) (Nat.le_of_ble_eq_true rfl) ⟨rfl, rfl, x⟩
      · exact absurd c_35 (show ¬ (2 : Int32) = 0 by decide)
  · exact absurd ((bI_0.mp c_7).symm.trans hb) (by decide)
set_option maxRecDepth 100000 in
set_option maxHeartbeats 4000000 in
theorem cs_restore {K : KX} {n : Nat} {h : MH} {h0 : MH} {m : Nat} {M : MS} (x : Ms h0 m M h) {s : Nat} (h2 : s < 2) (hb : b_in (nI s) 0 1 = true) (hs : ¬ giss M s = 0) : Con K mX11_restore [.ref m, .int (nI s)] 0 0 n h (RetP (none) n (Ms h0 m (scrd (sbrd (sthr M 0) (cpk (gsav M) (gbrd M) (568 * s) 0 568)) (cpkL (gcsv M) (gcrd M) (28 * s) 0 28)))) := by
  refine Con.of (by decide +kernel) (Nat.le_of_ble_eq_true rfl) ?_
  obtain ⟨M9, x, sc⟩ := x
  refine mj_aload_n 0 dX11_restore_0 rfl ?_
  refine mj_iload_n 1 dX11_restore_1 rfl ?_
  refine mj_iconst (v := 0) dX11_restore_2 rfl ?_
  refine mj_iconst (v := 1) dX11_restore_3 rfl ?_
  refine mj_cS1 [_, _, _] dX11_restore_4 cwX11_isBetween lkX11_64 rfl (cn_X11_isBetween _ _ _) ⟨Nat.le_of_ble_eq_true rfl, Nat.le_of_ble_eq_true rfl, Nat.le_of_ble_eq_true rfl, Nat.le_of_ble_eq_true rfl, Nat.le_of_ble_eq_true rfl⟩ (fun h' e' => ?_)
  subst h'
  refine mj_if_ne 14 dX11_restore_7 (by decide) (fun c_7 => ?_) (fun c_7 => ?_)
  · refine mj_aload_n 0 dX11_restore_14 rfl ?_
    refine mj_getf dX11_restore_15 fgX11_29 x.ko rfl ?_
    refine mj_iload_n 1 dX11_restore_18 rfl ?_
    refine mj_zald x.kiss (ixn (by omega)) h2 dX11_restore_19 ?_
    refine mj_if_ne 27 dX11_restore_20 (by decide) (fun c_20 => ?_) (fun c_20 => ?_)
    · refine mj_iconst (v := 0) dX11_restore_27 rfl ?_
      refine mM_pthr dX11_restore_28 fgX11_61 x (fun h x => ?_)
      refine mj_aload_n 0 dX11_restore_31 rfl ?_
      refine mj_getf dX11_restore_32 fgX11_61 x.ko rfl ?_
      refine mj_if_ne 71 dX11_restore_35 (by decide) (fun c_35 => ?_) (fun c_35 => ?_)
      · exact absurd (show (0 : Int32) = 0 from rfl) c_35
      · refine mj_aload_n 0 dX11_restore_38 rfl ?_
        refine mj_getf dX11_restore_39 fgX11_16 x.ko rfl ?_
        refine mj_sipush (v := (568)) dX11_restore_42 rfl ?_
        refine mj_iload_n 1 dX11_restore_45 rfl ?_
        refine mj_imul dX11_restore_46 ?_
        refine mj_eq (show (568 : Int32) * nI s = nI (568 * s) from nI_mul 568 s) ?_
        refine mj_aload_n 0 dX11_restore_47 rfl ?_
        refine mj_getf dX11_restore_48 fgX11_7 x.ko rfl ?_
        refine mj_iconst (v := 0) dX11_restore_51 rfl ?_
        refine mj_cS0 [_, .int (nI (568 * s)), _, .int (nI (0))] dX11_restore_52 cwX11_copyInts lkX11_355 rfl (cn_X11_copyInts x.ksav x.kbrd (by omega) (by omega) (by omega) (by omega) (by omega)) ⟨Nat.le_of_ble_eq_true rfl, Nat.le_of_ble_eq_true rfl, Nat.le_of_ble_eq_true rfl, Nat.le_of_ble_eq_true rfl, Nat.le_of_ble_eq_true rfl⟩ (fun h e' => ?_)
        subst e'
        have x := x.pbrd (cpk (gsav M9) (gbrd M9) (568 * s) 0 568)
        refine mj_aload_n 0 dX11_restore_55 rfl ?_
        refine mj_getf dX11_restore_56 fgX11_26 x.ko rfl ?_
        refine mj_bipush (v := (28)) dX11_restore_59 rfl ?_
        refine mj_iload_n 1 dX11_restore_61 rfl ?_
        refine mj_imul dX11_restore_62 ?_
        refine mj_eq (show (28 : Int32) * nI s = nI (28 * s) from nI_mul 28 s) ?_
        refine mj_aload_n 0 dX11_restore_63 rfl ?_
        refine mj_getf dX11_restore_64 fgX11_19 x.ko rfl ?_
        refine mj_iconst (v := 0) dX11_restore_67 rfl ?_
        refine mj_cS0 [_, .int (nI (28 * s)), _, .int (nI (0))] dX11_restore_68 cwX11_copyCredits lkX11_359 rfl (cn_X11_copyCredits x.kcsv x.kcrd (by omega) (by omega) (by omega) (by omega) (by omega)) ⟨Nat.le_of_ble_eq_true rfl, Nat.le_of_ble_eq_true rfl, Nat.le_of_ble_eq_true rfl, Nat.le_of_ble_eq_true rfl, Nat.le_of_ble_eq_true rfl⟩ (fun h e' => ?_)
        subst e'
        have x := x.pcrd (cpkL (gcsv M9) (gcrd M9) (28 * s) 0 28)
        exact mj_vret dX11_restore_71 rfl (Nat.le_of_ble_eq_true rfl) (Nat.le_of_ble_eq_true rfl) ⟨rfl, rfl, (by
      have e1 : gbrd M9 = gbrd M := sc.b
      have e2 : gcrd M9 = gcrd M := sc.c
      have e3 : gsav M9 = gsav M := sc.a 3 rfl
      have e4 : gcsv M9 = gcsv M := sc.l 6
      refine ⟨_, x, ?_⟩
      rw [e1, e2, e3, e4]
      exact ((sc.sF 7 0).sA 1 _).sL 4 _)⟩
    · exact absurd (by rw [← (show giss M9 = giss M from sc.z)]; exact c_20) hs
  · exact absurd ((bI_0.mp c_7).symm.trans hb) (by decide)
