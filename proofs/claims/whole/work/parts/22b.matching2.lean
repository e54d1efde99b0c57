def m_st (s : (Nat → Int32) × (Nat → Int32)) (o : Option ((Nat → Int32) × (Nat → Int32))) : (Nat → Int32) × (Nat → Int32) := match o with
  | none => s
  | some s' => s' 
set_option maxRecDepth 100000 in
set_option maxHeartbeats 4000000 in
theorem cn_X3_letSomeRiderAsk {K : KX} {n : Nat} {h : MH} {t p a : Nat} {B : BS} {S : Nat → Nat → Int32} {H A : Nat → Int32} (y : Mt h t H A) (x : Pf h p S) (b : Bd h a B) (h1 : a + 71 ≤ t ∨ t + 3 ≤ a) (h2 : p + 10 ≤ t ∨ t + 3 ≤ p) : Con K mX3_letSomeRiderAsk [.ref t, .ref a, .ref p] 0 0 n h (RetP (some (.int (bI (m_turn B S H A (bnr B) 0).isSome))) n (fun h' => Mt h' t (m_st (H, A) (m_turn B S H A (bnr B) 0)).1 (m_st (H, A) (m_turn B S H A (bnr B) 0)).2 ∧ Off t (t + 3) h h')) := by
  have x9 := x
  have b9 := b
  have y9 := y
  have b5 := b.2.2.2.2.2.1
  have b6 := b.2.2.2.2.2.2
  have x0 := x.1
  have b0 := b.1
  obtain ⟨y0, y1, y2⟩ := y
  refine Con.of (by decide +kernel) (Nat.le_of_ble_eq_true rfl) ?_
  have loop : ∀ (f : Nat) (k : Nat), k + f = bnr B → m_turn B S H A (bnr B) 0 = m_turn B S H A f k → GG (K, mX3_letSomeRiderAsk, 0, 0, RetP (some (.int (bI (m_turn B S H A (bnr B) 0).isSome))) n (fun h' => Mt h' t (m_st (H, A) (m_turn B S H A (bnr B) 0)).1 (m_st (H, A) (m_turn B S H A (bnr B) 0)).2 ∧ Off t (t + 3) h h')) 0 0 2 [(3, .int (nI k)), (0, .ref t), (1, .ref a), (2, .ref p)] [] n h := by
    intro f
    induction f with
    | zero =>
      intro k hk hm
      refine mj_iload_n 0 dX3_letSomeRiderAsk_2 rfl ?_
      refine mj_aload_n 2 dX3_letSomeRiderAsk_3 rfl ?_
      refine mj_getf dX3_letSomeRiderAsk_4 fgX3_28 (by repeat (first | assumption | exact mup_s _ _ _ | rw [mup_n _ _ (by omega)])) rfl ?_
      refine mj_icmp_ge 68 dX3_letSomeRiderAsk_7 (by decide) (fun c_7 => ?_) (fun c_7 => ?_)
      · refine mj_iconst (v := 0) dX3_letSomeRiderAsk_68 rfl ?_
        exact mj_zret dX3_letSomeRiderAsk_69 rfl (by first | exact Or.inl rfl | exact Or.inr rfl) (Nat.le_of_ble_eq_true rfl) (Nat.le_of_ble_eq_true rfl) ⟨(by rw [hm]; rfl), rfl, (by rw [hm]; exact ⟨y9, Off.rf⟩)⟩
      · exact absurd (nI_le (by omega) (by omega)) c_7
    | succ f ih =>
      intro k hk hm
      have bk := b9.2.2.2.2.1 k (by omega)
      cases hb : m_best B S A k (bnd B) with
      | none =>
        refine mj_iload_n 0 dX3_letSomeRiderAsk_2 rfl ?_
        refine mj_aload_n 2 dX3_letSomeRiderAsk_3 rfl ?_
        refine mj_getf dX3_letSomeRiderAsk_4 fgX3_28 (by repeat (first | assumption | exact mup_s _ _ _ | rw [mup_n _ _ (by omega)])) rfl ?_
        refine mj_icmp_ge 68 dX3_letSomeRiderAsk_7 (by decide) (fun c_7 => ?_) (fun c_7 => ?_)
        · exact absurd c_7 (nI_ge (by omega) (by omega))
        · refine mj_aload_n 2 dX3_letSomeRiderAsk_10 rfl ?_
          refine mj_iload_n 0 dX3_letSomeRiderAsk_11 rfl ?_
          refine mj_cV1 [_] (RX0, TX0, 5) dX3_letSomeRiderAsk_12 cwX0_rider lkX3_34 (by repeat (first | assumption | exact mup_s _ _ _ | rw [mup_n _ _ (by omega)])) rfl rfl rfl rfl (cn_X0_rider b9 (j := k) rfl (by omega)) ⟨Nat.le_of_ble_eq_true rfl, Nat.le_of_ble_eq_true rfl, Nat.le_of_ble_eq_true rfl, Nat.le_of_ble_eq_true rfl, Nat.le_of_ble_eq_true rfl⟩ (fun h' e' => ?_)
          subst e'
          refine mj_astore (ls' := [(4, _), (3, _), (0, _), (1, _), (2, _)]) dX3_letSomeRiderAsk_15 (Nat.le_of_ble_eq_true rfl) rfl ?_
          refine mj_aload 0 dX3_letSomeRiderAsk_17 rfl ?_
          refine mj_getf dX3_letSomeRiderAsk_19 fgX3_38 (by repeat (first | assumption | exact mup_s _ _ _ | rw [mup_n _ _ (by omega)])) rfl ?_
          refine mj_if_ne 62 dX3_letSomeRiderAsk_22 (by decide) (fun c_22 => ?_) (fun c_22 => ?_)
          · refine mj_iinc (ls' := [(3, _), (4, _), (0, _), (1, _), (2, _)]) 1 dX3_letSomeRiderAsk_62 rfl (nI_s _) (Nat.le_of_ble_eq_true rfl) rfl ?_
            refine mj_goto 2 dX3_letSomeRiderAsk_65 (by decide) ?_
            exact mj_ls [0, 2, 3, 4] rfl (ih (k + 1) (by omega) (by rw [hm]; simp [m_turn, *]))
          · refine mj_aload_n 2 dX3_letSomeRiderAsk_25 rfl ?_
            refine mj_getf dX3_letSomeRiderAsk_26 fgX3_9 (by repeat (first | assumption | exact mup_s _ _ _ | rw [mup_n _ _ (by omega)])) rfl ?_
            refine mj_iload_n 1 dX3_letSomeRiderAsk_29 rfl ?_
            refine mj_iald (by repeat (first | assumption | exact mup_s _ _ _ | rw [mup_n _ _ (by omega)])) (by first | assumption | rfl | exact ixn (by omega)) (by first | assumption | decide | omega) dX3_letSomeRiderAsk_30 ?_
            refine mj_iconst (v := (-1)) dX3_letSomeRiderAsk_31 rfl ?_
            refine mj_icmp_ne 62 dX3_letSomeRiderAsk_32 (by decide) (fun c_32 => ?_) (fun c_32 => ?_)
            · refine mj_iinc (ls' := [(3, _), (4, _), (0, _), (1, _), (2, _)]) 1 dX3_letSomeRiderAsk_62 rfl (nI_s _) (Nat.le_of_ble_eq_true rfl) rfl ?_
              refine mj_goto 2 dX3_letSomeRiderAsk_65 (by decide) ?_
              exact mj_ls [0, 2, 3, 4] rfl (ih (k + 1) (by omega) (by rw [hm]; simp [m_turn, *]))
            · refine mj_aload_n 2 dX3_letSomeRiderAsk_35 rfl ?_
              refine mj_aload_n 3 dX3_letSomeRiderAsk_36 rfl ?_
              refine mj_aload_n 4 dX3_letSomeRiderAsk_37 rfl ?_
              refine mj_aload 0 dX3_letSomeRiderAsk_38 rfl ?_
              refine mj_cV1 [_, _, _] (RX3, TX3, 2) dX3_letSomeRiderAsk_40 cwX3_bestUnasked lkX3_43 y0 rfl rfl rfl rfl (cn_X3_bestUnasked y9 x9 b9 (show k < 20 by omega)) ⟨Nat.le_of_ble_eq_true rfl, Nat.le_of_ble_eq_true rfl, Nat.le_of_ble_eq_true rfl, Nat.le_of_ble_eq_true rfl, Nat.le_of_ble_eq_true rfl⟩ (fun h' e' => ?_)
              subst e'
              rw [hb]
              refine mj_astoreN (ls' := [(5, _), (4, _), (3, _), (0, _), (1, _), (2, _)]) dX3_letSomeRiderAsk_43 (Nat.le_of_ble_eq_true rfl) rfl ?_
              refine mj_aloadN 0 dX3_letSomeRiderAsk_45 rfl ?_
              refine mj_ifnullN 62 dX3_letSomeRiderAsk_47 (by decide) ?_
              refine mj_iinc (ls' := [(3, _), (5, _), (4, _), (0, _), (1, _), (2, _)]) 2 dX3_letSomeRiderAsk_62 rfl (nI_s _) (Nat.le_of_ble_eq_true rfl) rfl ?_
              refine mj_goto 2 dX3_letSomeRiderAsk_65 (by decide) ?_
              exact mj_ls [0, 3, 4, 5] rfl (ih (k + 1) (by omega) (by rw [hm]; simp [m_turn, *]))
      | some d =>
        have hd := m_best_lt B S A k (bnd B) d hb
        obtain ⟨be, bt⟩ := b9.2.2.2.1 d (by omega)
        refine mj_iload_n 0 dX3_letSomeRiderAsk_2 rfl ?_
        refine mj_aload_n 2 dX3_letSomeRiderAsk_3 rfl ?_
        refine mj_getf dX3_letSomeRiderAsk_4 fgX3_28 (by repeat (first | assumption | exact mup_s _ _ _ | rw [mup_n _ _ (by omega)])) rfl ?_
        refine mj_icmp_ge 68 dX3_letSomeRiderAsk_7 (by decide) (fun c_7 => ?_) (fun c_7 => ?_)
        · exact absurd c_7 (nI_ge (by omega) (by omega))
        · refine mj_aload_n 2 dX3_letSomeRiderAsk_10 rfl ?_
          refine mj_iload_n 0 dX3_letSomeRiderAsk_11 rfl ?_
          refine mj_cV1 [_] (RX0, TX0, 5) dX3_letSomeRiderAsk_12 cwX0_rider lkX3_34 (by repeat (first | assumption | exact mup_s _ _ _ | rw [mup_n _ _ (by omega)])) rfl rfl rfl rfl (cn_X0_rider b9 (j := k) rfl (by omega)) ⟨Nat.le_of_ble_eq_true rfl, Nat.le_of_ble_eq_true rfl, Nat.le_of_ble_eq_true rfl, Nat.le_of_ble_eq_true rfl, Nat.le_of_ble_eq_true rfl⟩ (fun h' e' => ?_)
          subst e'
          refine mj_astore (ls' := [(4, _), (3, _), (0, _), (1, _), (2, _)]) dX3_letSomeRiderAsk_15 (Nat.le_of_ble_eq_true rfl) rfl ?_
          refine mj_aload 0 dX3_letSomeRiderAsk_17 rfl ?_
          refine mj_getf dX3_letSomeRiderAsk_19 fgX3_38 (by repeat (first | assumption | exact mup_s _ _ _ | rw [mup_n _ _ (by omega)])) rfl ?_
          refine mj_if_ne 62 dX3_letSomeRiderAsk_22 (by decide) (fun c_22 => ?_) (fun c_22 => ?_)
          · refine mj_iinc (ls' := [(3, _), (4, _), (0, _), (1, _), (2, _)]) 1 dX3_letSomeRiderAsk_62 rfl (nI_s _) (Nat.le_of_ble_eq_true rfl) rfl ?_
            refine mj_goto 2 dX3_letSomeRiderAsk_65 (by decide) ?_
            exact mj_ls [0, 2, 3, 4] rfl (ih (k + 1) (by omega) (by rw [hm]; simp [m_turn, *]))
          · refine mj_aload_n 2 dX3_letSomeRiderAsk_25 rfl ?_
            refine mj_getf dX3_letSomeRiderAsk_26 fgX3_9 (by repeat (first | assumption | exact mup_s _ _ _ | rw [mup_n _ _ (by omega)])) rfl ?_
            refine mj_iload_n 1 dX3_letSomeRiderAsk_29 rfl ?_
            refine mj_iald (by repeat (first | assumption | exact mup_s _ _ _ | rw [mup_n _ _ (by omega)])) (by first | assumption | rfl | exact ixn (by omega)) (by first | assumption | decide | omega) dX3_letSomeRiderAsk_30 ?_
            refine mj_iconst (v := (-1)) dX3_letSomeRiderAsk_31 rfl ?_
            refine mj_icmp_ne 62 dX3_letSomeRiderAsk_32 (by decide) (fun c_32 => ?_) (fun c_32 => ?_)
            · refine mj_iinc (ls' := [(3, _), (4, _), (0, _), (1, _), (2, _)]) 1 dX3_letSomeRiderAsk_62 rfl (nI_s _) (Nat.le_of_ble_eq_true rfl) rfl ?_
              refine mj_goto 2 dX3_letSomeRiderAsk_65 (by decide) ?_
              exact mj_ls [0, 2, 3, 4] rfl (ih (k + 1) (by omega) (by rw [hm]; simp [m_turn, *]))
            · refine mj_aload_n 2 dX3_letSomeRiderAsk_35 rfl ?_
              refine mj_aload_n 3 dX3_letSomeRiderAsk_36 rfl ?_
              refine mj_aload_n 4 dX3_letSomeRiderAsk_37 rfl ?_
              refine mj_aload 0 dX3_letSomeRiderAsk_38 rfl ?_
              refine mj_cV1 [_, _, _] (RX3, TX3, 2) dX3_letSomeRiderAsk_40 cwX3_bestUnasked lkX3_43 y0 rfl rfl rfl rfl (cn_X3_bestUnasked y9 x9 b9 (show k < 20 by omega)) ⟨Nat.le_of_ble_eq_true rfl, Nat.le_of_ble_eq_true rfl, Nat.le_of_ble_eq_true rfl, Nat.le_of_ble_eq_true rfl, Nat.le_of_ble_eq_true rfl⟩ (fun h' e' => ?_)
              subst e'
              rw [hb]
              refine mj_astore (ls' := [(5, _), (4, _), (3, _), (0, _), (1, _), (2, _)]) dX3_letSomeRiderAsk_43 (Nat.le_of_ble_eq_true rfl) rfl ?_
              refine mj_aload 0 dX3_letSomeRiderAsk_45 rfl ?_
              refine mj_ifnull dX3_letSomeRiderAsk_47 ?_
              refine mj_aload_n 3 dX3_letSomeRiderAsk_50 rfl ?_
              refine mj_aload_n 4 dX3_letSomeRiderAsk_51 rfl ?_
              refine mj_aload_n 5 dX3_letSomeRiderAsk_52 rfl ?_
              refine mj_aload 1 dX3_letSomeRiderAsk_53 rfl ?_
              refine mj_aload 0 dX3_letSomeRiderAsk_55 rfl ?_
              refine mj_cV0 [_, _, _, _] (RX3, TX3, 2) dX3_letSomeRiderAsk_57 cwX3_ask lkX3_47 y0 rfl rfl rfl rfl (cn_X3_ask y9 x9 b9 (show k < 20 by omega) (show d < 8 by omega) h1 h2) ⟨Nat.le_of_ble_eq_true rfl, Nat.le_of_ble_eq_true rfl, Nat.le_of_ble_eq_true rfl, Nat.le_of_ble_eq_true rfl, Nat.le_of_ble_eq_true rfl⟩ (fun h' e' => ?_)
              obtain ⟨e1, e2⟩ := e'
              refine mj_iconst (v := 1) dX3_letSomeRiderAsk_60 rfl ?_
              exact mj_zret dX3_letSomeRiderAsk_61 rfl (by first | exact Or.inl rfl | exact Or.inr rfl) (Nat.le_of_ble_eq_true rfl) (Nat.le_of_ble_eq_true rfl) ⟨(by rw [hm]; simp [m_turn, bI, *]), rfl, (by rw [hm]; rw [show m_turn B S H A (f + 1) k = some (m_ask B S H A k d) from by simp [m_turn, *]]; exact ⟨e1, e2⟩)⟩
  refine mj_iconst (v := 0) dX3_letSomeRiderAsk_0 rfl ?_
  refine mj_istore_n (ls' := [(3, _), (0, _), (1, _), (2, _)]) dX3_letSomeRiderAsk_1 (Nat.le_of_ble_eq_true rfl) rfl ?_
  exact mj_ls [0, 1, 2, 3] rfl (loop (bnr B) 0 (by omega) rfl)
set_option maxRecDepth 100000 in
set_option maxHeartbeats 4000000 in
theorem cn_X3_run {K : KX} {n : Nat} {h : MH} {t p a : Nat} {B : BS} {S : Nat → Nat → Int32} {H A : Nat → Int32} (y : Mt h t H A) (x : Pf h p S) (b : Bd h a B) (h1 : a + 71 ≤ t ∨ t + 3 ≤ a) (h2 : p + 10 ≤ t ∨ t + 3 ≤ p) : Con K mX3_run [.ref t, .ref a, .ref p] 0 0 n h (RetP none n (fun h' => Mt h' t (m_run B S 160 (fun _ => -1, fun _ => 0)).1 (m_run B S 160 (fun _ => -1, fun _ => 0)).2 ∧ Off t (t + 3) h h')) := by
  obtain ⟨y0, y1, y2⟩ := y
  refine Con.of (by decide +kernel) (Nat.le_of_ble_eq_true rfl) ?_
  have loop : ∀ (f : Nat) (k : Nat) (H A : Nat → Int32) (g : MH), k + f = 160 → m_run B S 160 (fun _ => -1, fun _ => 0) = m_run B S f (H, A) → Mt g t H A → Off t (t + 3) h g → GG (K, mX3_run, 0, 0, RetP none n (fun h' => Mt h' t (m_run B S 160 (fun _ => -1, fun _ => 0)).1 (m_run B S 160 (fun _ => -1, fun _ => 0)).2 ∧ Off t (t + 3) h h')) 0 0 18 [(3, .int (nI k)), (0, .ref t), (1, .ref a), (2, .ref p)] [] n g := by
    intro f
    induction f with
    | zero =>
      intro k H A g hk hm y9 og
      refine mj_iload_n 0 dX3_run_18 rfl ?_
      refine mj_sipush (v := (160)) dX3_run_19 rfl ?_
      refine mj_icmp_ge 41 dX3_run_22 (by decide) (fun c_22 => ?_) (fun c_22 => ?_)
      · exact mj_vret dX3_run_41 rfl (Nat.le_of_ble_eq_true rfl) (Nat.le_of_ble_eq_true rfl) ⟨rfl, rfl, (by rw [hm]; exact ⟨y9, og⟩)⟩
      · exact absurd (nI_le (show 160 ≤ k by omega) (by omega)) c_22
    | succ f ih =>
      intro k H A g hk hm y9 og
      have x9 := x.off og (by omega)
      have b9 := b.off og (by omega)
      have y0 := y9.1
      refine mj_iload_n 0 dX3_run_18 rfl ?_
      refine mj_sipush (v := (160)) dX3_run_19 rfl ?_
      refine mj_icmp_ge 41 dX3_run_22 (by decide) (fun c_22 => ?_) (fun c_22 => ?_)
      · exact absurd c_22 (nI_ge (show k < 160 by omega) (by decide))
      · refine mj_aload_n 1 dX3_run_25 rfl ?_
        refine mj_aload_n 2 dX3_run_26 rfl ?_
        refine mj_aload_n 3 dX3_run_27 rfl ?_
        refine mj_cV1 [_, _] (RX3, TX3, 2) dX3_run_28 cwX3_letSomeRiderAsk lkX3_24 y0 rfl rfl rfl rfl (cn_X3_letSomeRiderAsk y9 x9 b9 h1 h2) ⟨Nat.le_of_ble_eq_true rfl, Nat.le_of_ble_eq_true rfl, Nat.le_of_ble_eq_true rfl, Nat.le_of_ble_eq_true rfl, Nat.le_of_ble_eq_true rfl⟩ (fun h' e' => ?_)
        obtain ⟨e1, e2⟩ := e'
        refine mj_if_ne 35 dX3_run_31 (by decide) (fun c_31 => ?_) (fun c_31 => ?_)
        · have z := bI_n0.mp c_31
          obtain ⟨s, hs⟩ := Option.isSome_iff_exists.mp z
          rw [hs] at e1
          refine mj_iinc (ls' := [(3, _), (0, _), (1, _), (2, _)]) 0 dX3_run_35 rfl (nI_s _) (Nat.le_of_ble_eq_true rfl) rfl ?_
          refine mj_goto 18 dX3_run_38 (by decide) ?_
          exact mj_ls [0, 1, 2, 3] rfl (ih (k + 1) s.1 s.2 _ (by omega) (by rw [hm]; rw [show m_run B S (f + 1) (H, A) = m_run B S f s from by rw [m_run]; dsimp only; rw [hs]]) e1 (og.tr e2))
        · have z := bI_0.mp c_31
          rw [Option.isSome_eq_false_iff, Option.isNone_iff_eq_none] at z
          rw [z] at e1
          exact mj_vret dX3_run_34 rfl (Nat.le_of_ble_eq_true rfl) (Nat.le_of_ble_eq_true rfl) ⟨rfl, rfl, (by rw [hm]; unfold m_run; dsimp only; rw [z]; exact ⟨e1, og.tr e2⟩)⟩
  refine mj_aload_n 0 dX3_run_0 rfl ?_
  refine mj_getf dX3_run_1 fgX3_9 (by repeat (first | assumption | exact mup_s _ _ _ | rw [mup_n _ _ (by omega)])) rfl ?_
  refine mj_iconst (v := (-1)) dX3_run_4 rfl ?_
  refine mj_cS0 [_, _] dX3_run_5 cwJ7_fill_53178 lkX3_18 rfl (cn_J7_fill_53178 y1 (by omega)) ⟨Nat.le_of_ble_eq_true rfl, Nat.le_of_ble_eq_true rfl, Nat.le_of_ble_eq_true rfl, Nat.le_of_ble_eq_true rfl, Nat.le_of_ble_eq_true rfl⟩ (fun h' e' => ?_)
  subst e'
  refine mj_aload_n 0 dX3_run_8 rfl ?_
  refine mj_getf dX3_run_9 fgX3_15 (by repeat (first | assumption | exact mup_s _ _ _ | rw [mup_n _ _ (by omega)])) rfl ?_
  refine mj_iconst (v := 0) dX3_run_12 rfl ?_
  refine mj_cS0 [_, _] dX3_run_13 cwJ7_fill_53178 lkX3_18 rfl (cn_J7_fill_53178 (by repeat (first | assumption | exact mup_s _ _ _ | rw [mup_n _ _ (by omega)])) (by omega)) ⟨Nat.le_of_ble_eq_true rfl, Nat.le_of_ble_eq_true rfl, Nat.le_of_ble_eq_true rfl, Nat.le_of_ble_eq_true rfl, Nat.le_of_ble_eq_true rfl⟩ (fun h' e' => ?_)
  subst e'
  refine mj_iconst (v := 0) dX3_run_16 rfl ?_
  refine mj_istore_n (ls' := [(3, _), (0, _), (1, _), (2, _)]) dX3_run_17 (Nat.le_of_ble_eq_true rfl) rfl ?_
  exact mj_ls [0, 1, 2, 3] rfl (loop 160 0 _ _ _ (by omega) rfl ⟨(by repeat (first | assumption | exact mup_s _ _ _ | rw [mup_n _ _ (by omega)])), (by repeat (first | assumption | exact mup_s _ _ _ | rw [mup_n _ _ (by omega)])), (by repeat (first | assumption | exact mup_s _ _ _ | rw [mup_n _ _ (by omega)]))⟩ ((Off.m0 _ (by omega) (by omega)).m _ (by omega) (by omega)))
set_option maxRecDepth 100000 in
set_option maxHeartbeats 4000000 in
theorem cn_X3_init {K : KX} {n : Nat} {h : MH} {t : Nat} (hn : n = t + 1) (x : h t = some (cO 3 [.null, .null])) : Con K mX3_init [.ref t] 2 40 n h (RetP none (n + 2) (fun h' => ∃ H A, Mt h' t H A ∧ Off t (t + 3) h h')) := by
  refine Con.of (by decide +kernel) (Nat.le_of_ble_eq_true rfl) ?_
  subst hn
  refine mj_aload_n 0 dX3_init_0 rfl ?_
  refine mj_objInit dX3_init_1 mlX3_3 im_obj cd_obj (Nat.le_of_ble_eq_true rfl) (Nat.le_of_ble_eq_true rfl) ?_
  refine mj_aload_n 0 dX3_init_4 rfl ?_
  refine mj_bipush (v := (20)) dX3_init_5 rfl ?_
  refine mj_newaI dX3_init_7 ac_int (show (20 : Int32).toInt = ((20 : Nat) : Int) from rfl) (by omega) (Nat.le_of_ble_eq_true rfl) (Nat.le_of_ble_eq_true rfl) ?_
  refine mj_putG dX3_init_9 ffX3_9 (by repeat (first | assumption | exact mup_s _ _ _ | rw [mup_n _ _ (by omega)])) rfl rfl (by intro r h9; cases h9; rfl) rfl rfl (Nat.le_of_ble_eq_true rfl) rfl ?_
  refine mj_aload_n 0 dX3_init_12 rfl ?_
  refine mj_bipush (v := (20)) dX3_init_13 rfl ?_
  refine mj_newaI dX3_init_15 ac_int (show (20 : Int32).toInt = ((20 : Nat) : Int) from rfl) (by omega) (Nat.le_of_ble_eq_true rfl) (Nat.le_of_ble_eq_true rfl) ?_
  refine mj_putG dX3_init_17 ffX3_15 (by repeat (first | assumption | exact mup_s _ _ _ | rw [mup_n _ _ (by omega)])) rfl rfl (by intro r h9; cases h9; rfl) rfl rfl (Nat.le_of_ble_eq_true rfl) rfl ?_
  exact mj_vret dX3_init_20 rfl (Nat.le_of_ble_eq_true rfl) (Nat.le_of_ble_eq_true rfl) ⟨rfl, rfl, ⟨_, _, ⟨(by repeat (first | assumption | exact mup_s _ _ _ | rw [mup_n _ _ (by omega)])), (by repeat (first | assumption | exact mup_s _ _ _ | rw [mup_n _ _ (by omega)])), (by repeat (first | assumption | exact mup_s _ _ _ | rw [mup_n _ _ (by omega)]))⟩, (by repeat (first | exact Off.rf | assumption | refine Off.m ?_ _ (by omega) (by omega)))⟩⟩
