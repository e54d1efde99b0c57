-- MATCHING: object at t, the holders at t + 1, the asked at t + 2
def Mt (h : MH) (t : Nat) (H A : Nat → Int32) : Prop := h t = some (cO 3 [.ref (t + 1), .ref (t + 2)]) ∧ h (t + 1) = some (cI 20 H) ∧ h (t + 2) = some (cI 20 A)
theorem Mt.at {h h' : MH} {t : Nat} {H A : Nat → Int32} (x : Mt h t H A) (e : ∀ q, t ≤ q → q < t + 3 → h' q = h q) : Mt h' t H A := ⟨(e _ (by omega) (by omega)).trans x.1, (e _ (by omega) (by omega)).trans x.2.1, (e _ (by omega) (by omega)).trans x.2.2⟩
theorem Mt.off {h h' : MH} {t c d : Nat} {H A : Nat → Int32} (x : Mt h t H A) (o : Off c d h h') (e : t + 3 ≤ c ∨ d ≤ t) : Mt h' t H A := x.at fun q h1 h2 => o q (by omega)
def vD (a : Nat) (o : Option Nat) : Value := match o with
  | none => .null
  | some d => .ref (a + 3 + 6 * d)
def vR (a : Nat) (o : Option Nat) : Value := match o with
  | none => .null
  | some r => .ref (a + 51 + r)
def m_open (S : Nat → Nat → Int32) (A : Nat → Int32) (r d : Nat) : Bool := p_fit S d r && !i_bit (A r) (nI d)
/-- the best driver whom the rider hasn't asked -/
def m_best (B : BS) (S : Nat → Nat → Int32) (A : Nat → Int32) (r : Nat) : Nat → Option Nat
  | 0 => none
  | k + 1 => if m_open S A r k then (match m_best B S A r k with
      | none => some k
      | some b => if p_rpref B S r k b then some k else some b) else m_best B S A r k
theorem m_best_lt (B : BS) (S : Nat → Nat → Int32) (A : Nat → Int32) (r : Nat) : ∀ k d, m_best B S A r k = some d → d < k
  | 0, d, h => by cases h
  | k + 1, d, h => by
    have ih := m_best_lt B S A r k
    unfold m_best at h
    split at h
    · split at h
      · cases h; omega
      · rename_i b hb
        split at h
        · cases h; omega
        · have q := ih b hb
          cases h; omega
    · have := ih d h; omega
def m_hold (B : BS) (S : Nat → Nat → Int32) (H : Nat → Int32) (d r : Nat) : Nat → Nat × Nat
  | 0 => (0, r)
  | k + 1 => if H k = nI d then ((m_hold B S H d r k).1 + 1, if p_dpref B S d (m_hold B S H d r k).2 k then k else (m_hold B S H d r k).2) else m_hold B S H d r k
theorem m_hold_le (B : BS) (S : Nat → Nat → Int32) (H : Nat → Int32) (d r : Nat) : ∀ k, (m_hold B S H d r k).1 ≤ k ∧ ((m_hold B S H d r k).2 = r ∨ (m_hold B S H d r k).2 < k)
  | 0 => ⟨Nat.le_refl 0, Or.inl rfl⟩
  | k + 1 => by
    have ih := m_hold_le B S H d r k
    unfold m_hold
    split
    · refine ⟨by dsimp only; omega, ?_⟩
      dsimp only
      split
      · exact Or.inr (by omega)
      · exact ih.2.imp id (fun z => by omega)
    · exact ⟨by omega, ih.2.imp id (fun z => by omega)⟩
def m_ask (B : BS) (S : Nat → Nat → Int32) (H A : Nat → Int32) (r d : Nat) : (Nat → Int32) × (Nat → Int32) :=
  (if dse (bD B d) < nI (m_hold B S (upd H r (nI d)) d r (bnr B)).1 then upd (upd H r (nI d)) (m_hold B S (upd H r (nI d)) d r (bnr B)).2 (-1) else upd H r (nI d), upd A r (A r ||| (1 <<< (nI d &&& 31))))
def m_turn (B : BS) (S : Nat → Nat → Int32) (H A : Nat → Int32) : Nat → Nat → Option ((Nat → Int32) × (Nat → Int32))
  | 0, _ => none
  | f + 1, k => if qst (bX B k) = 0 ∧ H k = -1 then (match m_best B S A k (bnd B) with
      | none => m_turn B S H A f (k + 1)
      | some d => some (m_ask B S H A k d)) else m_turn B S H A f (k + 1)
def m_run (B : BS) (S : Nat → Nat → Int32) : Nat → (Nat → Int32) × (Nat → Int32) → (Nat → Int32) × (Nat → Int32)
  | 0, s => s
  | f + 1, s => match m_turn B S s.1 s.2 (bnr B) 0 with
    | none => s
    | some s' => m_run B S f s'
/-- the best of the riders held -/
def m_top (B : BS) (S : Nat → Nat → Int32) (H : Nat → Int32) (d : Nat) : Nat → Option Nat
  | 0 => none
  | k + 1 => if H k = nI d then (match m_top B S H d k with
      | none => some k
      | some b => if p_dpref B S d k b then some k else some b) else m_top B S H d k
theorem m_top_lt (B : BS) (S : Nat → Nat → Int32) (H : Nat → Int32) (d : Nat) : ∀ k r, m_top B S H d k = some r → r < k
  | 0, r, h => by cases h
  | k + 1, r, h => by
    have ih := m_top_lt B S H d k
    unfold m_top at h
    split at h
    · split at h
      · cases h; omega
      · rename_i b hb
        split at h
        · cases h; omega
        · have q := ih b hb
          cases h; omega
    · have := ih r h; omega
def m_take (H : Nat → Int32) (o : Option Nat) : Nat → Int32 := match o with
  | none => H
  | some r => upd H r (-1)
set_option maxRecDepth 100000 in
set_option maxHeartbeats 4000000 in
theorem cn_X3_bestUnasked {K : KX} {n : Nat} {h : MH} {t p a : Nat} {B : BS} {S : Nat → Nat → Int32} {H A : Nat → Int32} (y : Mt h t H A) (x : Pf h p S) (b : Bd h a B) {r : Nat} (hr : r < 20) : Con K mX3_bestUnasked [.ref t, .ref a, .ref p, .ref (a + 51 + r)] 0 0 n h (Ret (some (vD a (m_best B S A r (bnd B)))) n h) := by
  have x9 := x
  have b9 := b
  have y9 := y
  have b5 := b.2.2.2.2.2.1
  have b6 := b.2.2.2.2.2.2
  have x0 := x.1
  have b0 := b.1
  obtain ⟨y0, y1, y2⟩ := y
  have bx := b9.2.2.2.2.1 r hr
  refine Con.of (by decide +kernel) (Nat.le_of_ble_eq_true rfl) ?_
  have loop : ∀ (f : Nat) (k : Nat), k + f = bnd B → GG (K, mX3_bestUnasked, 0, 0, Ret (some (vD a (m_best B S A r (bnd B)))) n h) 0 0 6 [(5, .int (nI k)), (4, vD a (m_best B S A r k)), (0, .ref t), (1, .ref a), (2, .ref p), (3, .ref (a + 51 + r))] [] n h := by
    intro f
    induction f with
    | zero =>
      intro k hk
      cases hm : m_best B S A r k with
      | none =>
        refine mj_iload 0 dX3_bestUnasked_6 rfl ?_
        refine mj_aload_n 3 dX3_bestUnasked_8 rfl ?_
        refine mj_getf dX3_bestUnasked_9 fgX3_51 (by repeat (first | assumption | exact mup_s _ _ _ | rw [mup_n _ _ (by omega)])) rfl ?_
        refine mj_icmp_ge 89 dX3_bestUnasked_12 (by decide) (fun c_12 => ?_) (fun c_12 => ?_)
        · refine mj_aloadN 1 dX3_bestUnasked_89 rfl ?_
          exact mj_aret dX3_bestUnasked_91 rfl (Or.inl rfl) (Nat.le_of_ble_eq_true rfl) (Nat.le_of_ble_eq_true rfl) ⟨by rw [← show k = bnd B from by omega, hm]; rfl, rfl, rfl⟩
        · exact absurd (nI_le (by omega) (by omega)) c_12
      | some j =>
        refine mj_iload 0 dX3_bestUnasked_6 rfl ?_
        refine mj_aload_n 3 dX3_bestUnasked_8 rfl ?_
        refine mj_getf dX3_bestUnasked_9 fgX3_51 (by repeat (first | assumption | exact mup_s _ _ _ | rw [mup_n _ _ (by omega)])) rfl ?_
        refine mj_icmp_ge 89 dX3_bestUnasked_12 (by decide) (fun c_12 => ?_) (fun c_12 => ?_)
        · refine mj_aload 1 dX3_bestUnasked_89 rfl ?_
          exact mj_aret dX3_bestUnasked_91 rfl (Or.inr ⟨_, rfl⟩) (Nat.le_of_ble_eq_true rfl) (Nat.le_of_ble_eq_true rfl) ⟨by rw [← show k = bnd B from by omega, hm]; rfl, rfl, rfl⟩
        · exact absurd (nI_le (by omega) (by omega)) c_12
    | succ f ih =>
      intro k hk
      cases hm : m_best B S A r k with
      | none =>
        refine mj_iload 0 dX3_bestUnasked_6 rfl ?_
        refine mj_aload_n 3 dX3_bestUnasked_8 rfl ?_
        refine mj_getf dX3_bestUnasked_9 fgX3_51 (by repeat (first | assumption | exact mup_s _ _ _ | rw [mup_n _ _ (by omega)])) rfl ?_
        refine mj_icmp_ge 89 dX3_bestUnasked_12 (by decide) (fun c_12 => ?_) (fun c_12 => ?_)
        · exact absurd c_12 (nI_ge (by omega) (by omega))
        · refine mj_aload_n 3 dX3_bestUnasked_15 rfl ?_
          refine mj_iload 0 dX3_bestUnasked_16 rfl ?_
          refine mj_cV1 [_] (RX0, TX0, 5) dX3_bestUnasked_18 cwX0_driver lkX3_54 (by repeat (first | assumption | exact mup_s _ _ _ | rw [mup_n _ _ (by omega)])) rfl rfl rfl rfl (cn_X0_driver b9 (j := k) rfl (by omega)) ⟨Nat.le_of_ble_eq_true rfl, Nat.le_of_ble_eq_true rfl, Nat.le_of_ble_eq_true rfl, Nat.le_of_ble_eq_true rfl, Nat.le_of_ble_eq_true rfl⟩ (fun h' e' => ?_)
          subst e'
          refine mj_astore (ls' := [(6, _), (5, _), (4, _), (0, _), (1, _), (2, _), (3, _)]) dX3_bestUnasked_21 (Nat.le_of_ble_eq_true rfl) rfl ?_
          refine mj_aload_n 5 dX3_bestUnasked_23 rfl ?_
          refine mj_aload 0 dX3_bestUnasked_24 rfl ?_
          refine mj_aload_n 6 dX3_bestUnasked_26 rfl ?_
          refine mj_cV1 [_, _] (RX4, TX4, 1) dX3_bestUnasked_27 cwX4_areFitting lkX3_58 x0 rfl rfl rfl rfl (cn_X4_areFitting x9 b9 (show k < 8 by omega) hr) ⟨Nat.le_of_ble_eq_true rfl, Nat.le_of_ble_eq_true rfl, Nat.le_of_ble_eq_true rfl, Nat.le_of_ble_eq_true rfl, Nat.le_of_ble_eq_true rfl⟩ (fun h' e' => ?_)
          subst e'
          refine mj_if_eq 54 dX3_bestUnasked_30 (by decide) (fun c_30 => ?_) (fun c_30 => ?_)
          · have z1 := bI_0.mp c_30
            refine mj_iconst (v := 0) dX3_bestUnasked_54 rfl ?_
            refine mj_istore (ls' := [(7, _), (6, _), (5, _), (4, _), (0, _), (1, _), (2, _), (3, _)]) dX3_bestUnasked_55 (Nat.le_of_ble_eq_true rfl) rfl ?_
            refine mj_iload 0 dX3_bestUnasked_57 rfl ?_
            refine mj_if_eq 83 dX3_bestUnasked_59 (by decide) (fun c_59 => ?_) (fun c_59 => ?_)
            · refine mj_iinc (ls' := [(5, _), (7, _), (6, _), (4, _), (0, _), (1, _), (2, _), (3, _)]) 2 dX3_bestUnasked_83 rfl (nI_s _) (Nat.le_of_ble_eq_true rfl) rfl ?_
              refine mj_goto 6 dX3_bestUnasked_86 (by decide) ?_
              exact mj_ls [0, 3, 4, 5, 6, 7] rfl (by have q := ih (k + 1) (by omega); rw [show m_best B S A r (k + 1) = none from by simp [m_best, m_open, *]] at q; exact q)
            · exact absurd rfl c_59
          · have z1 := bI_n0.mp c_30
            refine mj_aload_n 3 dX3_bestUnasked_33 rfl ?_
            refine mj_getf dX3_bestUnasked_34 fgX3_15 (by repeat (first | assumption | exact mup_s _ _ _ | rw [mup_n _ _ (by omega)])) rfl ?_
            refine mj_aload_n 6 dX3_bestUnasked_37 rfl ?_
            refine mj_getf dX3_bestUnasked_38 fgX3_64 (by repeat (first | assumption | exact mup_s _ _ _ | rw [mup_n _ _ (by omega)])) rfl ?_
            refine mj_iald (by repeat (first | assumption | exact mup_s _ _ _ | rw [mup_n _ _ (by omega)])) (by first | assumption | rfl | exact ixn (by omega)) (by first | assumption | decide | omega) dX3_bestUnasked_41 ?_
            refine mj_iload 1 dX3_bestUnasked_42 rfl ?_
            refine mj_iushr dX3_bestUnasked_44 rfl ?_
            refine mj_iconst (v := 1) dX3_bestUnasked_45 rfl ?_
            refine mj_iand dX3_bestUnasked_46 ?_
            refine mj_if_ne 54 dX3_bestUnasked_47 (by decide) (fun c_47 => ?_) (fun c_47 => ?_)
            · have z2 : i_bit (A r) (nI k) = true := decide_eq_true c_47
              refine mj_iconst (v := 0) dX3_bestUnasked_54 rfl ?_
              refine mj_istore (ls' := [(7, _), (6, _), (5, _), (4, _), (0, _), (1, _), (2, _), (3, _)]) dX3_bestUnasked_55 (Nat.le_of_ble_eq_true rfl) rfl ?_
              refine mj_iload 0 dX3_bestUnasked_57 rfl ?_
              refine mj_if_eq 83 dX3_bestUnasked_59 (by decide) (fun c_59 => ?_) (fun c_59 => ?_)
              · refine mj_iinc (ls' := [(5, _), (7, _), (6, _), (4, _), (0, _), (1, _), (2, _), (3, _)]) 2 dX3_bestUnasked_83 rfl (nI_s _) (Nat.le_of_ble_eq_true rfl) rfl ?_
                refine mj_goto 6 dX3_bestUnasked_86 (by decide) ?_
                exact mj_ls [0, 3, 4, 5, 6, 7] rfl (by have q := ih (k + 1) (by omega); rw [show m_best B S A r (k + 1) = none from by simp [m_best, m_open, *]] at q; exact q)
              · exact absurd rfl c_59
            · have z2 : i_bit (A r) (nI k) = false := decide_eq_false (fun z => z c_47)
              refine mj_iconst (v := 1) dX3_bestUnasked_50 rfl ?_
              refine mj_goto 55 dX3_bestUnasked_51 (by decide) ?_
              refine mj_istore (ls' := [(7, _), (6, _), (5, _), (4, _), (0, _), (1, _), (2, _), (3, _)]) dX3_bestUnasked_55 (Nat.le_of_ble_eq_true rfl) rfl ?_
              refine mj_iload 0 dX3_bestUnasked_57 rfl ?_
              refine mj_if_eq 83 dX3_bestUnasked_59 (by decide) (fun c_59 => ?_) (fun c_59 => ?_)
              · exact absurd c_59 (by decide)
              · refine mj_aloadN 3 dX3_bestUnasked_62 rfl ?_
                refine mj_ifnullN 79 dX3_bestUnasked_64 (by decide) ?_
                refine mj_aload 1 dX3_bestUnasked_79 rfl ?_
                refine mj_astore (ls' := [(4, _), (7, _), (6, _), (5, _), (0, _), (1, _), (2, _), (3, _)]) dX3_bestUnasked_81 (Nat.le_of_ble_eq_true rfl) rfl ?_
                refine mj_iinc (ls' := [(5, _), (4, _), (7, _), (6, _), (0, _), (1, _), (2, _), (3, _)]) 3 dX3_bestUnasked_83 rfl (nI_s _) (Nat.le_of_ble_eq_true rfl) rfl ?_
                refine mj_goto 6 dX3_bestUnasked_86 (by decide) ?_
                exact mj_ls [0, 1, 4, 5, 6, 7] rfl (by have q := ih (k + 1) (by omega); rw [show m_best B S A r (k + 1) = some k from by simp [m_best, m_open, *]] at q; exact q)
      | some j =>
        have hj := m_best_lt B S A r k j hm
        obtain ⟨bj, btj⟩ := b9.2.2.2.1 j (by omega)
        refine mj_iload 0 dX3_bestUnasked_6 rfl ?_
        refine mj_aload_n 3 dX3_bestUnasked_8 rfl ?_
        refine mj_getf dX3_bestUnasked_9 fgX3_51 (by repeat (first | assumption | exact mup_s _ _ _ | rw [mup_n _ _ (by omega)])) rfl ?_
        refine mj_icmp_ge 89 dX3_bestUnasked_12 (by decide) (fun c_12 => ?_) (fun c_12 => ?_)
        · exact absurd c_12 (nI_ge (by omega) (by omega))
        · refine mj_aload_n 3 dX3_bestUnasked_15 rfl ?_
          refine mj_iload 0 dX3_bestUnasked_16 rfl ?_
          refine mj_cV1 [_] (RX0, TX0, 5) dX3_bestUnasked_18 cwX0_driver lkX3_54 (by repeat (first | assumption | exact mup_s _ _ _ | rw [mup_n _ _ (by omega)])) rfl rfl rfl rfl (cn_X0_driver b9 (j := k) rfl (by omega)) ⟨Nat.le_of_ble_eq_true rfl, Nat.le_of_ble_eq_true rfl, Nat.le_of_ble_eq_true rfl, Nat.le_of_ble_eq_true rfl, Nat.le_of_ble_eq_true rfl⟩ (fun h' e' => ?_)
          subst e'
          refine mj_astore (ls' := [(6, _), (5, _), (4, _), (0, _), (1, _), (2, _), (3, _)]) dX3_bestUnasked_21 (Nat.le_of_ble_eq_true rfl) rfl ?_
          refine mj_aload_n 5 dX3_bestUnasked_23 rfl ?_
          refine mj_aload 0 dX3_bestUnasked_24 rfl ?_
          refine mj_aload_n 6 dX3_bestUnasked_26 rfl ?_
          refine mj_cV1 [_, _] (RX4, TX4, 1) dX3_bestUnasked_27 cwX4_areFitting lkX3_58 x0 rfl rfl rfl rfl (cn_X4_areFitting x9 b9 (show k < 8 by omega) hr) ⟨Nat.le_of_ble_eq_true rfl, Nat.le_of_ble_eq_true rfl, Nat.le_of_ble_eq_true rfl, Nat.le_of_ble_eq_true rfl, Nat.le_of_ble_eq_true rfl⟩ (fun h' e' => ?_)
          subst e'
          refine mj_if_eq 54 dX3_bestUnasked_30 (by decide) (fun c_30 => ?_) (fun c_30 => ?_)
          · have z1 := bI_0.mp c_30
            refine mj_iconst (v := 0) dX3_bestUnasked_54 rfl ?_
            refine mj_istore (ls' := [(7, _), (6, _), (5, _), (4, _), (0, _), (1, _), (2, _), (3, _)]) dX3_bestUnasked_55 (Nat.le_of_ble_eq_true rfl) rfl ?_
            refine mj_iload 0 dX3_bestUnasked_57 rfl ?_
            refine mj_if_eq 83 dX3_bestUnasked_59 (by decide) (fun c_59 => ?_) (fun c_59 => ?_)
            · refine mj_iinc (ls' := [(5, _), (7, _), (6, _), (4, _), (0, _), (1, _), (2, _), (3, _)]) 2 dX3_bestUnasked_83 rfl (nI_s _) (Nat.le_of_ble_eq_true rfl) rfl ?_
              refine mj_goto 6 dX3_bestUnasked_86 (by decide) ?_
              exact mj_ls [0, 3, 4, 5, 6, 7] rfl (by have q := ih (k + 1) (by omega); rw [show m_best B S A r (k + 1) = some j from by simp [m_best, m_open, *]] at q; exact q)
            · exact absurd rfl c_59
          · have z1 := bI_n0.mp c_30
            refine mj_aload_n 3 dX3_bestUnasked_33 rfl ?_
            refine mj_getf dX3_bestUnasked_34 fgX3_15 (by repeat (first | assumption | exact mup_s _ _ _ | rw [mup_n _ _ (by omega)])) rfl ?_
            refine mj_aload_n 6 dX3_bestUnasked_37 rfl ?_
            refine mj_getf dX3_bestUnasked_38 fgX3_64 (by repeat (first | assumption | exact mup_s _ _ _ | rw [mup_n _ _ (by omega)])) rfl ?_
            refine mj_iald (by repeat (first | assumption | exact mup_s _ _ _ | rw [mup_n _ _ (by omega)])) (by first | assumption | rfl | exact ixn (by omega)) (by first | assumption | decide | omega) dX3_bestUnasked_41 ?_
            refine mj_iload 1 dX3_bestUnasked_42 rfl ?_
            refine mj_iushr dX3_bestUnasked_44 rfl ?_
            refine mj_iconst (v := 1) dX3_bestUnasked_45 rfl ?_
            refine mj_iand dX3_bestUnasked_46 ?_
            refine mj_if_ne 54 dX3_bestUnasked_47 (by decide) (fun c_47 => ?_) (fun c_47 => ?_)
            · have z2 : i_bit (A r) (nI k) = true := decide_eq_true c_47
              refine mj_iconst (v := 0) dX3_bestUnasked_54 rfl ?_
              refine mj_istore (ls' := [(7, _), (6, _), (5, _), (4, _), (0, _), (1, _), (2, _), (3, _)]) dX3_bestUnasked_55 (Nat.le_of_ble_eq_true rfl) rfl ?_
              refine mj_iload 0 dX3_bestUnasked_57 rfl ?_
              refine mj_if_eq 83 dX3_bestUnasked_59 (by decide) (fun c_59 => ?_) (fun c_59 => ?_)
              · refine mj_iinc (ls' := [(5, _), (7, _), (6, _), (4, _), (0, _), (1, _), (2, _), (3, _)]) 2 dX3_bestUnasked_83 rfl (nI_s _) (Nat.le_of_ble_eq_true rfl) rfl ?_
                refine mj_goto 6 dX3_bestUnasked_86 (by decide) ?_
                exact mj_ls [0, 3, 4, 5, 6, 7] rfl (by have q := ih (k + 1) (by omega); rw [show m_best B S A r (k + 1) = some j from by simp [m_best, m_open, *]] at q; exact q)
              · exact absurd rfl c_59
            · have z2 : i_bit (A r) (nI k) = false := decide_eq_false (fun z => z c_47)
              refine mj_iconst (v := 1) dX3_bestUnasked_50 rfl ?_
              refine mj_goto 55 dX3_bestUnasked_51 (by decide) ?_
              refine mj_istore (ls' := [(7, _), (6, _), (5, _), (4, _), (0, _), (1, _), (2, _), (3, _)]) dX3_bestUnasked_55 (Nat.le_of_ble_eq_true rfl) rfl ?_
              refine mj_iload 0 dX3_bestUnasked_57 rfl ?_
              refine mj_if_eq 83 dX3_bestUnasked_59 (by decide) (fun c_59 => ?_) (fun c_59 => ?_)
              · exact absurd c_59 (by decide)
              · refine mj_aload 3 dX3_bestUnasked_62 rfl ?_
                refine mj_ifnull dX3_bestUnasked_64 ?_
                refine mj_aload_n 6 dX3_bestUnasked_67 rfl ?_
                refine mj_aload_n 7 dX3_bestUnasked_68 rfl ?_
                refine mj_aload 1 dX3_bestUnasked_69 rfl ?_
                refine mj_aload 3 dX3_bestUnasked_71 rfl ?_
                refine mj_cV1 [_, _, _] (RX4, TX4, 1) dX3_bestUnasked_73 cwX4_riderPrefers lkX3_67 x0 rfl rfl rfl rfl (cn_X4_riderPrefers x9 b9 (show k < 8 by omega) (show j < 8 by omega) hr) ⟨Nat.le_of_ble_eq_true rfl, Nat.le_of_ble_eq_true rfl, Nat.le_of_ble_eq_true rfl, Nat.le_of_ble_eq_true rfl, Nat.le_of_ble_eq_true rfl⟩ (fun h' e' => ?_)
                subst e'
                refine mj_if_eq 83 dX3_bestUnasked_76 (by decide) (fun c_76 => ?_) (fun c_76 => ?_)
                · have z3 := bI_0.mp c_76
                  refine mj_iinc (ls' := [(5, _), (7, _), (6, _), (4, _), (0, _), (1, _), (2, _), (3, _)]) 2 dX3_bestUnasked_83 rfl (nI_s _) (Nat.le_of_ble_eq_true rfl) rfl ?_
                  refine mj_goto 6 dX3_bestUnasked_86 (by decide) ?_
                  exact mj_ls [0, 3, 4, 5, 6, 7] rfl (by have q := ih (k + 1) (by omega); rw [show m_best B S A r (k + 1) = some j from by simp [m_best, m_open, *]] at q; exact q)
                · have z3 := bI_n0.mp c_76
                  refine mj_aload 1 dX3_bestUnasked_79 rfl ?_
                  refine mj_astore (ls' := [(4, _), (7, _), (6, _), (5, _), (0, _), (1, _), (2, _), (3, _)]) dX3_bestUnasked_81 (Nat.le_of_ble_eq_true rfl) rfl ?_
                  refine mj_iinc (ls' := [(5, _), (4, _), (7, _), (6, _), (0, _), (1, _), (2, _), (3, _)]) 3 dX3_bestUnasked_83 rfl (nI_s _) (Nat.le_of_ble_eq_true rfl) rfl ?_
                  refine mj_goto 6 dX3_bestUnasked_86 (by decide) ?_
                  exact mj_ls [0, 1, 4, 5, 6, 7] rfl (by have q := ih (k + 1) (by omega); rw [show m_best B S A r (k + 1) = some k from by simp [m_best, m_open, *]] at q; exact q)
  refine mj_null dX3_bestUnasked_0 ?_
  refine mj_astoreN (ls' := [(4, _), (0, _), (1, _), (2, _), (3, _)]) dX3_bestUnasked_1 (Nat.le_of_ble_eq_true rfl) rfl ?_
  refine mj_iconst (v := 0) dX3_bestUnasked_3 rfl ?_
  refine mj_istore (ls' := [(5, _), (4, _), (0, _), (1, _), (2, _), (3, _)]) dX3_bestUnasked_4 (Nat.le_of_ble_eq_true rfl) rfl ?_
  exact mj_ls [0, 1, 2, 3, 4, 5] rfl (loop (bnd B) 0 (by omega))
set_option maxRecDepth 100000 in
set_option maxHeartbeats 4000000 in
theorem cn_X3_takeBestHeld {K : KX} {n : Nat} {h : MH} {t p a : Nat} {B : BS} {S : Nat → Nat → Int32} {H A : Nat → Int32} (y : Mt h t H A) (x : Pf h p S) (b : Bd h a B) {d : Nat} (hd : d < 8) : Con K mX3_takeBestHeld [.ref t, .ref a, .ref p, .ref (a + 3 + 6 * d)] 0 0 n h (RetP (some (vR a (m_top B S H d (bnr B)))) n (fun h' => Mt h' t (m_take H (m_top B S H d (bnr B))) A ∧ Off t (t + 3) h h')) := by
  have x9 := x
  have b9 := b
  have y9 := y
  have b5 := b.2.2.2.2.2.1
  have b6 := b.2.2.2.2.2.2
  have x0 := x.1
  have b0 := b.1
  obtain ⟨y0, y1, y2⟩ := y
  obtain ⟨be, bt⟩ := b9.2.2.2.1 d hd
  refine Con.of (by decide +kernel) (Nat.le_of_ble_eq_true rfl) ?_
  have loop : ∀ (f : Nat) (k : Nat), k + f = bnr B → GG (K, mX3_takeBestHeld, 0, 0, RetP (some (vR a (m_top B S H d (bnr B)))) n (fun h' => Mt h' t (m_take H (m_top B S H d (bnr B))) A ∧ Off t (t + 3) h h')) 0 0 6 [(5, .int (nI k)), (4, vR a (m_top B S H d k)), (0, .ref t), (1, .ref a), (2, .ref p), (3, .ref (a + 3 + 6 * d))] [] n h := by
    intro f
    induction f with
    | zero =>
      intro k hk
      cases hm : m_top B S H d k with
      | none =>
        refine mj_iload 0 dX3_takeBestHeld_6 rfl ?_
        refine mj_aload_n 3 dX3_takeBestHeld_8 rfl ?_
        refine mj_getf dX3_takeBestHeld_9 fgX3_28 (by repeat (first | assumption | exact mup_s _ _ _ | rw [mup_n _ _ (by omega)])) rfl ?_
        refine mj_icmp_ge 64 dX3_takeBestHeld_12 (by decide) (fun c_12 => ?_) (fun c_12 => ?_)
        · refine mj_aloadN 1 dX3_takeBestHeld_64 rfl ?_
          refine mj_ifnullN 80 dX3_takeBestHeld_66 (by decide) ?_
          refine mj_aloadN 1 dX3_takeBestHeld_80 rfl ?_
          have hq : m_top B S H d (bnr B) = none := by rw [← show k = bnr B from by omega, hm]
          exact mj_aret dX3_takeBestHeld_82 rfl (Or.inl rfl) (Nat.le_of_ble_eq_true rfl) (Nat.le_of_ble_eq_true rfl) ⟨by rw [hq]; rfl, rfl, by rw [hq]; exact ⟨y9, Off.rf⟩⟩
        · exact absurd (nI_le (by omega) (by omega)) c_12
      | some j =>
        have hj := m_top_lt B S H d k j hm
        have bj := b9.2.2.2.2.1 j (by omega)
        refine mj_iload 0 dX3_takeBestHeld_6 rfl ?_
        refine mj_aload_n 3 dX3_takeBestHeld_8 rfl ?_
        refine mj_getf dX3_takeBestHeld_9 fgX3_28 (by repeat (first | assumption | exact mup_s _ _ _ | rw [mup_n _ _ (by omega)])) rfl ?_
        refine mj_icmp_ge 64 dX3_takeBestHeld_12 (by decide) (fun c_12 => ?_) (fun c_12 => ?_)
        · refine mj_aload 1 dX3_takeBestHeld_64 rfl ?_
          refine mj_ifnull dX3_takeBestHeld_66 ?_
          refine mj_aload_n 2 dX3_takeBestHeld_69 rfl ?_
          refine mj_getf dX3_takeBestHeld_70 fgX3_9 (by repeat (first | assumption | exact mup_s _ _ _ | rw [mup_n _ _ (by omega)])) rfl ?_
          refine mj_aload 1 dX3_takeBestHeld_73 rfl ?_
          refine mj_getf dX3_takeBestHeld_75 fgX3_64 (by repeat (first | assumption | exact mup_s _ _ _ | rw [mup_n _ _ (by omega)])) rfl ?_
          refine mj_iconst (v := (-1)) dX3_takeBestHeld_78 rfl ?_
          refine mj_iast (by repeat (first | assumption | exact mup_s _ _ _ | rw [mup_n _ _ (by omega)])) (by first | assumption | rfl | exact ixn (by omega)) (by first | assumption | decide | omega) dX3_takeBestHeld_79 ?_
          refine mj_aload 1 dX3_takeBestHeld_80 rfl ?_
          have hq : m_top B S H d (bnr B) = some j := by rw [← show k = bnr B from by omega, hm]
          exact mj_aret dX3_takeBestHeld_82 rfl (Or.inr ⟨_, rfl⟩) (Nat.le_of_ble_eq_true rfl) (Nat.le_of_ble_eq_true rfl) ⟨by rw [hq]; rfl, rfl, by rw [hq]; exact ⟨⟨(mup_n _ _ (by omega)).trans y0, mup_s _ _ _, (mup_n _ _ (by omega)).trans y2⟩, Off.m0 _ (by omega) (by omega)⟩⟩
        · exact absurd (nI_le (by omega) (by omega)) c_12
    | succ f ih =>
      intro k hk
      cases hm : m_top B S H d k with
      | none =>
        refine mj_iload 0 dX3_takeBestHeld_6 rfl ?_
        refine mj_aload_n 3 dX3_takeBestHeld_8 rfl ?_
        refine mj_getf dX3_takeBestHeld_9 fgX3_28 (by repeat (first | assumption | exact mup_s _ _ _ | rw [mup_n _ _ (by omega)])) rfl ?_
        refine mj_icmp_ge 64 dX3_takeBestHeld_12 (by decide) (fun c_12 => ?_) (fun c_12 => ?_)
        · exact absurd c_12 (nI_ge (by omega) (by omega))
        · refine mj_aload_n 2 dX3_takeBestHeld_15 rfl ?_
          refine mj_getf dX3_takeBestHeld_16 fgX3_9 (by repeat (first | assumption | exact mup_s _ _ _ | rw [mup_n _ _ (by omega)])) rfl ?_
          refine mj_iload 0 dX3_takeBestHeld_19 rfl ?_
          refine mj_iald (by repeat (first | assumption | exact mup_s _ _ _ | rw [mup_n _ _ (by omega)])) (by first | assumption | rfl | exact ixn (by omega)) (by first | assumption | decide | omega) dX3_takeBestHeld_21 ?_
          refine mj_aload_n 5 dX3_takeBestHeld_22 rfl ?_
          refine mj_getf dX3_takeBestHeld_23 fgX3_71 (by repeat (first | assumption | exact mup_s _ _ _ | rw [mup_n _ _ (by omega)])) rfl ?_
          refine mj_icmp_ne 58 dX3_takeBestHeld_26 (by decide) (fun c_26 => ?_) (fun c_26 => ?_)
          · refine mj_iinc (ls' := [(5, _), (4, _), (0, _), (1, _), (2, _), (3, _)]) 0 dX3_takeBestHeld_58 rfl (nI_s _) (Nat.le_of_ble_eq_true rfl) rfl ?_
            refine mj_goto 6 dX3_takeBestHeld_61 (by decide) ?_
            exact mj_ls [0, 1, 2, 3, 4, 5] rfl (by have q := ih (k + 1) (by omega); rw [show m_top B S H d (k + 1) = none from by simp [m_top, *]] at q; exact q)
          · refine mj_aload_n 3 dX3_takeBestHeld_29 rfl ?_
            refine mj_iload 0 dX3_takeBestHeld_30 rfl ?_
            refine mj_cV1 [_] (RX0, TX0, 5) dX3_takeBestHeld_32 cwX0_rider lkX3_34 (by repeat (first | assumption | exact mup_s _ _ _ | rw [mup_n _ _ (by omega)])) rfl rfl rfl rfl (cn_X0_rider b9 (j := k) rfl (by omega)) ⟨Nat.le_of_ble_eq_true rfl, Nat.le_of_ble_eq_true rfl, Nat.le_of_ble_eq_true rfl, Nat.le_of_ble_eq_true rfl, Nat.le_of_ble_eq_true rfl⟩ (fun h' e' => ?_)
            subst e'
            refine mj_astore (ls' := [(6, _), (5, _), (4, _), (0, _), (1, _), (2, _), (3, _)]) dX3_takeBestHeld_35 (Nat.le_of_ble_eq_true rfl) rfl ?_
            refine mj_aloadN 2 dX3_takeBestHeld_37 rfl ?_
            refine mj_ifnullN 54 dX3_takeBestHeld_39 (by decide) ?_
            refine mj_aload 0 dX3_takeBestHeld_54 rfl ?_
            refine mj_astore (ls' := [(4, _), (6, _), (5, _), (0, _), (1, _), (2, _), (3, _)]) dX3_takeBestHeld_56 (Nat.le_of_ble_eq_true rfl) rfl ?_
            refine mj_iinc (ls' := [(5, _), (4, _), (6, _), (0, _), (1, _), (2, _), (3, _)]) 2 dX3_takeBestHeld_58 rfl (nI_s _) (Nat.le_of_ble_eq_true rfl) rfl ?_
            refine mj_goto 6 dX3_takeBestHeld_61 (by decide) ?_
            exact mj_ls [0, 1, 3, 4, 5, 6] rfl (by have q := ih (k + 1) (by omega); rw [show m_top B S H d (k + 1) = some k from by simp [m_top, *]] at q; exact q)
      | some j =>
        have hj := m_top_lt B S H d k j hm
        have bj := b9.2.2.2.2.1 j (by omega)
        refine mj_iload 0 dX3_takeBestHeld_6 rfl ?_
        refine mj_aload_n 3 dX3_takeBestHeld_8 rfl ?_
        refine mj_getf dX3_takeBestHeld_9 fgX3_28 (by repeat (first | assumption | exact mup_s _ _ _ | rw [mup_n _ _ (by omega)])) rfl ?_
        refine mj_icmp_ge 64 dX3_takeBestHeld_12 (by decide) (fun c_12 => ?_) (fun c_12 => ?_)
        · exact absurd c_12 (nI_ge (by omega) (by omega))
        · refine mj_aload_n 2 dX3_takeBestHeld_15 rfl ?_
          refine mj_getf dX3_takeBestHeld_16 fgX3_9 (by repeat (first | assumption | exact mup_s _ _ _ | rw [mup_n _ _ (by omega)])) rfl ?_
          refine mj_iload 0 dX3_takeBestHeld_19 rfl ?_
          refine mj_iald (by repeat (first | assumption | exact mup_s _ _ _ | rw [mup_n _ _ (by omega)])) (by first | assumption | rfl | exact ixn (by omega)) (by first | assumption | decide | omega) dX3_takeBestHeld_21 ?_
          refine mj_aload_n 5 dX3_takeBestHeld_22 rfl ?_
          refine mj_getf dX3_takeBestHeld_23 fgX3_71 (by repeat (first | assumption | exact mup_s _ _ _ | rw [mup_n _ _ (by omega)])) rfl ?_
          refine mj_icmp_ne 58 dX3_takeBestHeld_26 (by decide) (fun c_26 => ?_) (fun c_26 => ?_)
          · refine mj_iinc (ls' := [(5, _), (4, _), (0, _), (1, _), (2, _), (3, _)]) 0 dX3_takeBestHeld_58 rfl (nI_s _) (Nat.le_of_ble_eq_true rfl) rfl ?_
            refine mj_goto 6 dX3_takeBestHeld_61 (by decide) ?_
            exact mj_ls [0, 1, 2, 3, 4, 5] rfl (by have q := ih (k + 1) (by omega); rw [show m_top B S H d (k + 1) = some j from by simp [m_top, *]] at q; exact q)
          · refine mj_aload_n 3 dX3_takeBestHeld_29 rfl ?_
            refine mj_iload 0 dX3_takeBestHeld_30 rfl ?_
            refine mj_cV1 [_] (RX0, TX0, 5) dX3_takeBestHeld_32 cwX0_rider lkX3_34 (by repeat (first | assumption | exact mup_s _ _ _ | rw [mup_n _ _ (by omega)])) rfl rfl rfl rfl (cn_X0_rider b9 (j := k) rfl (by omega)) ⟨Nat.le_of_ble_eq_true rfl, Nat.le_of_ble_eq_true rfl, Nat.le_of_ble_eq_true rfl, Nat.le_of_ble_eq_true rfl, Nat.le_of_ble_eq_true rfl⟩ (fun h' e' => ?_)
            subst e'
            refine mj_astore (ls' := [(6, _), (5, _), (4, _), (0, _), (1, _), (2, _), (3, _)]) dX3_takeBestHeld_35 (Nat.le_of_ble_eq_true rfl) rfl ?_
            refine mj_aload 2 dX3_takeBestHeld_37 rfl ?_
            refine mj_ifnull dX3_takeBestHeld_39 ?_
            refine mj_aload_n 5 dX3_takeBestHeld_42 rfl ?_
            refine mj_aload_n 6 dX3_takeBestHeld_43 rfl ?_
            refine mj_aload 0 dX3_takeBestHeld_44 rfl ?_
            refine mj_aload 2 dX3_takeBestHeld_46 rfl ?_
            refine mj_cV1 [_, _, _] (RX4, TX4, 1) dX3_takeBestHeld_48 cwX4_driverPrefers lkX3_74 x0 rfl rfl rfl rfl (cn_X4_driverPrefers x9 b9 hd (show k < 20 by omega) (show j < 20 by omega)) ⟨Nat.le_of_ble_eq_true rfl, Nat.le_of_ble_eq_true rfl, Nat.le_of_ble_eq_true rfl, Nat.le_of_ble_eq_true rfl, Nat.le_of_ble_eq_true rfl⟩ (fun h' e' => ?_)
            subst e'
            refine mj_if_eq 58 dX3_takeBestHeld_51 (by decide) (fun c_51 => ?_) (fun c_51 => ?_)
            · have z3 := bI_0.mp c_51
              refine mj_iinc (ls' := [(5, _), (6, _), (4, _), (0, _), (1, _), (2, _), (3, _)]) 1 dX3_takeBestHeld_58 rfl (nI_s _) (Nat.le_of_ble_eq_true rfl) rfl ?_
              refine mj_goto 6 dX3_takeBestHeld_61 (by decide) ?_
              exact mj_ls [0, 2, 3, 4, 5, 6] rfl (by have q := ih (k + 1) (by omega); rw [show m_top B S H d (k + 1) = some j from by simp [m_top, *]] at q; exact q)
            · have z3 := bI_n0.mp c_51
              refine mj_aload 0 dX3_takeBestHeld_54 rfl ?_
              refine mj_astore (ls' := [(4, _), (6, _), (5, _), (0, _), (1, _), (2, _), (3, _)]) dX3_takeBestHeld_56 (Nat.le_of_ble_eq_true rfl) rfl ?_
              refine mj_iinc (ls' := [(5, _), (4, _), (6, _), (0, _), (1, _), (2, _), (3, _)]) 2 dX3_takeBestHeld_58 rfl (nI_s _) (Nat.le_of_ble_eq_true rfl) rfl ?_
              refine mj_goto 6 dX3_takeBestHeld_61 (by decide) ?_
              exact mj_ls [0, 1, 3, 4, 5, 6] rfl (by have q := ih (k + 1) (by omega); rw [show m_top B S H d (k + 1) = some k from by simp [m_top, *]] at q; exact q)
  refine mj_null dX3_takeBestHeld_0 ?_
  refine mj_astoreN (ls' := [(4, _), (0, _), (1, _), (2, _), (3, _)]) dX3_takeBestHeld_1 (Nat.le_of_ble_eq_true rfl) rfl ?_
  refine mj_iconst (v := 0) dX3_takeBestHeld_3 rfl ?_
  refine mj_istore (ls' := [(5, _), (4, _), (0, _), (1, _), (2, _), (3, _)]) dX3_takeBestHeld_4 (Nat.le_of_ble_eq_true rfl) rfl ?_
  exact mj_ls [0, 1, 2, 3, 4, 5] rfl (loop (bnr B) 0 (by omega))
set_option maxRecDepth 100000 in
set_option maxHeartbeats 4000000 in
theorem cn_X3_ask {K : KX} {n : Nat} {h : MH} {t p a : Nat} {B : BS} {S : Nat → Nat → Int32} {H A : Nat → Int32} (y : Mt h t H A) (x : Pf h p S) (b : Bd h a B) {r d : Nat} (hr : r < 20) (hd : d < 8) (h1 : a + 71 ≤ t ∨ t + 3 ≤ a) (h2 : p + 10 ≤ t ∨ t + 3 ≤ p) : Con K mX3_ask [.ref t, .ref a, .ref p, .ref (a + 51 + r), .ref (a + 3 + 6 * d)] 0 0 n h (RetP none n (fun h' => Mt h' t (m_ask B S H A r d).1 (m_ask B S H A r d).2 ∧ Off t (t + 3) h h')) := by
  have b5 := b.2.2.2.2.2.1
  have b6 := b.2.2.2.2.2.2
  have b0 := b.1
  obtain ⟨y0, y1, y2⟩ := y
  refine Con.of (by decide +kernel) (Nat.le_of_ble_eq_true rfl) ?_
  have bx := b.2.2.2.2.1 r hr
  obtain ⟨be, bt⟩ := b.2.2.2.1 d hd
  refine mj_aload_n 0 dX3_ask_0 rfl ?_
  refine mj_getf dX3_ask_1 fgX3_15 (by repeat (first | assumption | exact mup_s _ _ _ | rw [mup_n _ _ (by omega)])) rfl ?_
  refine mj_aload_n 3 dX3_ask_4 rfl ?_
  refine mj_getf dX3_ask_5 fgX3_64 (by repeat (first | assumption | exact mup_s _ _ _ | rw [mup_n _ _ (by omega)])) rfl ?_
  refine mj_dup2 dX3_ask_8 rfl rfl ?_
  refine mj_iald (by repeat (first | assumption | exact mup_s _ _ _ | rw [mup_n _ _ (by omega)])) (by first | assumption | rfl | exact ixn (by omega)) (by first | assumption | decide | omega) dX3_ask_9 ?_
  refine mj_iconst (v := 1) dX3_ask_10 rfl ?_
  refine mj_aload 4 dX3_ask_11 rfl ?_
  refine mj_getf dX3_ask_13 fgX3_71 (by repeat (first | assumption | exact mup_s _ _ _ | rw [mup_n _ _ (by omega)])) rfl ?_
  refine mj_ishl dX3_ask_16 ?_
  refine mj_ior dX3_ask_17 ?_
  refine mj_iast (by repeat (first | assumption | exact mup_s _ _ _ | rw [mup_n _ _ (by omega)])) (by first | assumption | rfl | exact ixn (by omega)) (by first | assumption | decide | omega) dX3_ask_18 ?_
  refine mj_aload_n 0 dX3_ask_19 rfl ?_
  refine mj_getf dX3_ask_20 fgX3_9 (by repeat (first | assumption | exact mup_s _ _ _ | rw [mup_n _ _ (by omega)])) rfl ?_
  refine mj_aload_n 3 dX3_ask_23 rfl ?_
  refine mj_getf dX3_ask_24 fgX3_64 (by repeat (first | assumption | exact mup_s _ _ _ | rw [mup_n _ _ (by omega)])) rfl ?_
  refine mj_aload 4 dX3_ask_27 rfl ?_
  refine mj_getf dX3_ask_29 fgX3_71 (by repeat (first | assumption | exact mup_s _ _ _ | rw [mup_n _ _ (by omega)])) rfl ?_
  refine mj_iast (by repeat (first | assumption | exact mup_s _ _ _ | rw [mup_n _ _ (by omega)])) (by first | assumption | rfl | exact ixn (by omega)) (by first | assumption | decide | omega) dX3_ask_32 ?_
  refine mj_iconst (v := 0) dX3_ask_33 rfl ?_
  refine mj_istore (ls' := [(5, _), (0, _), (1, _), (2, _), (3, _), (4, _)]) dX3_ask_34 (Nat.le_of_ble_eq_true rfl) rfl ?_
  refine mj_aload_n 4 dX3_ask_36 rfl ?_
  refine mj_astore (ls' := [(6, _), (5, _), (0, _), (1, _), (2, _), (3, _), (4, _)]) dX3_ask_37 (Nat.le_of_ble_eq_true rfl) rfl ?_
  refine mj_iconst (v := 0) dX3_ask_39 rfl ?_
  refine mj_istore (ls' := [(7, _), (6, _), (5, _), (0, _), (1, _), (2, _), (3, _), (4, _)]) dX3_ask_40 (Nat.le_of_ble_eq_true rfl) rfl ?_
  generalize eg : mup (mup h (t + 2) (cI 20 (upd A r (A r ||| 1 <<< (nI d &&& 31))))) (t + 1) (cI 20 (upd H r (nI d))) = g1
  have og : Off t (t + 3) h g1 := by rw [← eg]; exact (Off.m0 _ (by omega) (by omega)).m _ (by omega) (by omega)
  have y9 : Mt g1 t (upd H r (nI d)) (upd A r (A r ||| 1 <<< (nI d &&& 31))) := by rw [← eg]; exact ⟨(by repeat (first | assumption | exact mup_s _ _ _ | rw [mup_n _ _ (by omega)])), (by repeat (first | assumption | exact mup_s _ _ _ | rw [mup_n _ _ (by omega)])), (by repeat (first | assumption | exact mup_s _ _ _ | rw [mup_n _ _ (by omega)]))⟩
  have x9 := x.off og (by omega)
  have b9 := b.off og (by omega)
  have x0 := x9.1
  have b0 := b9.1
  obtain ⟨y0, y1, y2⟩ := id y9
  obtain ⟨be, bt⟩ := b9.2.2.2.1 d hd
  have bx := b9.2.2.2.2.1 r hr
  generalize eH : upd H r (nI d) = H1 at *
  have loop : ∀ (f : Nat) (k c w : Nat), k + f = bnr B → m_hold B S H1 d r k = (c, w) → GG (K, mX3_ask, 0, 0, RetP none n (fun h' => Mt h' t (m_ask B S H A r d).1 (m_ask B S H A r d).2 ∧ Off t (t + 3) h h')) 0 0 42 [(7, .int (nI k)), (5, .int (nI c)), (6, .ref (a + 51 + w)), (0, .ref t), (1, .ref a), (2, .ref p), (3, .ref (a + 51 + r)), (4, .ref (a + 3 + 6 * d))] [] n g1 := by
    intro f
    induction f with
    | zero =>
      intro k c w hk hw
      have hq : m_hold B S H1 d r (bnr B) = (c, w) := by rw [show bnr B = k by omega]; exact hw
      have hl := m_hold_le B S H1 d r k
      rw [hw] at hl
      have bw := b9.2.2.2.2.1 w (by have := hl.2; dsimp only at this; omega)
      refine mj_iload 0 dX3_ask_42 rfl ?_
      refine mj_aload_n 4 dX3_ask_44 rfl ?_
      refine mj_getf dX3_ask_45 fgX3_28 (by repeat (first | assumption | exact mup_s _ _ _ | rw [mup_n _ _ (by omega)])) rfl ?_
      refine mj_icmp_ge 100 dX3_ask_48 (by decide) (fun c_48 => ?_) (fun c_48 => ?_)
      · refine mj_iload 1 dX3_ask_100 rfl ?_
        refine mj_aload 7 dX3_ask_102 rfl ?_
        refine mj_getf dX3_ask_104 fgX3_78 (by repeat (first | assumption | exact mup_s _ _ _ | rw [mup_n _ _ (by omega)])) rfl ?_
        refine mj_icmp_le 121 dX3_ask_107 (by decide) (fun c_107 => ?_) (fun c_107 => ?_)
        · exact mj_vret dX3_ask_121 rfl (Nat.le_of_ble_eq_true rfl) (Nat.le_of_ble_eq_true rfl) ⟨rfl, rfl, by unfold m_ask; rw [show upd H r (nI d) = H1 from eH, hq, if_neg (Int32.not_lt.mpr c_107)]; exact ⟨y9, og⟩⟩
        · refine mj_aload_n 3 dX3_ask_110 rfl ?_
          refine mj_getf dX3_ask_111 fgX3_9 (by repeat (first | assumption | exact mup_s _ _ _ | rw [mup_n _ _ (by omega)])) rfl ?_
          refine mj_aload 2 dX3_ask_114 rfl ?_
          refine mj_getf dX3_ask_116 fgX3_64 (by repeat (first | assumption | exact mup_s _ _ _ | rw [mup_n _ _ (by omega)])) rfl ?_
          refine mj_iconst (v := (-1)) dX3_ask_119 rfl ?_
          refine mj_iast (by repeat (first | assumption | exact mup_s _ _ _ | rw [mup_n _ _ (by omega)])) (by first | assumption | rfl | exact ixn (by omega)) (by first | assumption | decide | omega) dX3_ask_120 ?_
          exact mj_vret dX3_ask_121 rfl (Nat.le_of_ble_eq_true rfl) (Nat.le_of_ble_eq_true rfl) ⟨rfl, rfl, by unfold m_ask; rw [show upd H r (nI d) = H1 from eH, hq, if_pos (Int32.not_le.mp c_107)]; exact ⟨⟨(mup_n _ _ (by omega)).trans y9.1, mup_s _ _ _, (mup_n _ _ (by omega)).trans y9.2.2⟩, og.m _ (by omega) (by omega)⟩⟩
      · exact absurd (nI_le (by omega) (by omega)) c_48
    | succ f ih =>
      intro k c w hk hw
      have hl := m_hold_le B S H1 d r k
      rw [hw] at hl
      have hl1 := hl.1
      have hl2 := hl.2
      dsimp only at hl1 hl2
      have bw := b9.2.2.2.2.1 w (by omega)
      refine mj_iload 0 dX3_ask_42 rfl ?_
      refine mj_aload_n 4 dX3_ask_44 rfl ?_
      refine mj_getf dX3_ask_45 fgX3_28 (by repeat (first | assumption | exact mup_s _ _ _ | rw [mup_n _ _ (by omega)])) rfl ?_
      refine mj_icmp_ge 100 dX3_ask_48 (by decide) (fun c_48 => ?_) (fun c_48 => ?_)
      · exact absurd c_48 (nI_ge (by omega) (by omega))
      · refine mj_aload_n 3 dX3_ask_51 rfl ?_
        refine mj_getf dX3_ask_52 fgX3_9 (by repeat (first | assumption | exact mup_s _ _ _ | rw [mup_n _ _ (by omega)])) rfl ?_
        refine mj_iload 0 dX3_ask_55 rfl ?_
        refine mj_iald (by repeat (first | assumption | exact mup_s _ _ _ | rw [mup_n _ _ (by omega)])) (by first | assumption | rfl | exact ixn (by omega)) (by first | assumption | decide | omega) dX3_ask_57 ?_
        refine mj_aload 7 dX3_ask_58 rfl ?_
        refine mj_getf dX3_ask_60 fgX3_71 (by repeat (first | assumption | exact mup_s _ _ _ | rw [mup_n _ _ (by omega)])) rfl ?_
        refine mj_icmp_ne 94 dX3_ask_63 (by decide) (fun c_63 => ?_) (fun c_63 => ?_)
        · refine mj_iinc (ls' := [(7, _), (5, _), (6, _), (0, _), (1, _), (2, _), (3, _), (4, _)]) 0 dX3_ask_94 rfl (nI_s _) (Nat.le_of_ble_eq_true rfl) rfl ?_
          refine mj_goto 42 dX3_ask_97 (by decide) ?_
          exact mj_ls [0, 1, 2, 3, 4, 5, 6, 7] rfl (ih (k + 1) c w (by omega) (by simp [m_hold, *]))
        · refine mj_iinc (ls' := [(5, _), (7, _), (6, _), (0, _), (1, _), (2, _), (3, _), (4, _)]) 1 dX3_ask_66 rfl (nI_s _) (Nat.le_of_ble_eq_true rfl) rfl ?_
          refine mj_aload_n 5 dX3_ask_69 rfl ?_
          refine mj_aload 7 dX3_ask_70 rfl ?_
          refine mj_aload 2 dX3_ask_72 rfl ?_
          refine mj_aload_n 4 dX3_ask_74 rfl ?_
          refine mj_iload 1 dX3_ask_75 rfl ?_
          refine mj_cV1 [_] (RX0, TX0, 5) dX3_ask_77 cwX0_rider lkX3_34 (by repeat (first | assumption | exact mup_s _ _ _ | rw [mup_n _ _ (by omega)])) rfl rfl rfl rfl (cn_X0_rider b9 (j := k) rfl (by omega)) ⟨Nat.le_of_ble_eq_true rfl, Nat.le_of_ble_eq_true rfl, Nat.le_of_ble_eq_true rfl, Nat.le_of_ble_eq_true rfl, Nat.le_of_ble_eq_true rfl⟩ (fun h' e' => ?_)
          subst e'
          refine mj_cV1 [_, _, _] (RX4, TX4, 1) dX3_ask_80 cwX4_driverPrefers lkX3_74 x0 rfl rfl rfl rfl (cn_X4_driverPrefers x9 b9 hd (show w < 20 by omega) (show k < 20 by omega)) ⟨Nat.le_of_ble_eq_true rfl, Nat.le_of_ble_eq_true rfl, Nat.le_of_ble_eq_true rfl, Nat.le_of_ble_eq_true rfl, Nat.le_of_ble_eq_true rfl⟩ (fun h' e' => ?_)
          subst e'
          refine mj_if_eq 94 dX3_ask_83 (by decide) (fun c_83 => ?_) (fun c_83 => ?_)
          · have z3 := bI_0.mp c_83
            refine mj_iinc (ls' := [(7, _), (5, _), (6, _), (0, _), (1, _), (2, _), (3, _), (4, _)]) 1 dX3_ask_94 rfl (nI_s _) (Nat.le_of_ble_eq_true rfl) rfl ?_
            refine mj_goto 42 dX3_ask_97 (by decide) ?_
            exact mj_ls [0, 1, 2, 3, 4, 5, 6, 7] rfl (ih (k + 1) (c + 1) w (by omega) (by simp [m_hold, *]))
          · have z3 := bI_n0.mp c_83
            refine mj_aload_n 4 dX3_ask_86 rfl ?_
            refine mj_iload 1 dX3_ask_87 rfl ?_
            refine mj_cV1 [_] (RX0, TX0, 5) dX3_ask_89 cwX0_rider lkX3_34 (by repeat (first | assumption | exact mup_s _ _ _ | rw [mup_n _ _ (by omega)])) rfl rfl rfl rfl (cn_X0_rider b9 (j := k) rfl (by omega)) ⟨Nat.le_of_ble_eq_true rfl, Nat.le_of_ble_eq_true rfl, Nat.le_of_ble_eq_true rfl, Nat.le_of_ble_eq_true rfl, Nat.le_of_ble_eq_true rfl⟩ (fun h' e' => ?_)
            subst e'
            refine mj_astore (ls' := [(6, _), (5, _), (7, _), (0, _), (1, _), (2, _), (3, _), (4, _)]) dX3_ask_92 (Nat.le_of_ble_eq_true rfl) rfl ?_
            refine mj_iinc (ls' := [(7, _), (6, _), (5, _), (0, _), (1, _), (2, _), (3, _), (4, _)]) 2 dX3_ask_94 rfl (nI_s _) (Nat.le_of_ble_eq_true rfl) rfl ?_
            refine mj_goto 42 dX3_ask_97 (by decide) ?_
            exact mj_ls [0, 2, 1, 3, 4, 5, 6, 7] rfl (ih (k + 1) (c + 1) k (by omega) (by simp [m_hold, *]))
  exact mj_ls [0, 2, 1, 3, 4, 5, 6, 7] rfl (loop (bnr B) 0 0 r (by omega) rfl)
