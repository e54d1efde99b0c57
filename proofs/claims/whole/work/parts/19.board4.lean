def CpD (O B : BS) (k : Nat) : Prop := bnd B = bnd O ∧ bnr B = bnr O ∧ bpe B = bpe O ∧ ∀ d, d < k → bD B d = bD O d ∧ Req (bT O d) (bT B d)
/-- the same board -/
def Beq (O B : BS) : Prop := CpD O B (bnd O) ∧ ∀ r, r < bnr O → bX B r = bX O r
theorem CpD.go {O B : BS} {k : Nat} {T : RS} (c : CpD O B k) (q : Req (bT O k) T) : CpD O (b_setT (b_setD B k (bD O k)) k T) (k + 1) := by
  refine ⟨c.1, c.2.1, c.2.2.1, fun d hd => ?_⟩
  by_cases e : d = k
  · subst e
    show vf_upd _ _ _ _ = _ ∧ Req _ (vf_upd _ _ _ _)
    rw [vf_s, vf_s]
    exact ⟨rfl, q⟩
  · show vf_upd _ _ _ _ = _ ∧ Req _ (vf_upd _ _ _ _)
    rw [vf_n _ _ e, vf_n _ _ e]
    exact c.2.2.2 d (by omega)
set_option maxRecDepth 100000 in
set_option maxHeartbeats 4000000 in
theorem cn_X0_copyFrom {K : KX} {n : Nat} {h : MH} {a : Nat} {B : BS} (b : Bd h a B) {g : Nat} {O : BS} (w : Bd h g O) (hd : a + 71 ≤ g ∨ g + 71 ≤ a) : Con K mX0_copyFrom [.ref a, .ref g] 0 0 n h (RetP none n (fun h' => ∃ B', Bd h' a B' ∧ Beq O B' ∧ Off a (a + 71) h h')) := by
  refine Con.of (by decide +kernel) (Nat.le_of_ble_eq_true rfl) ?_
  have wx := w.2.2.2.2.2
  have loop2 : ∀ (f : Nat) (k : Nat) (h1 : MH) (B1 : BS) (ls : List (Nat × Value)), k + f = bnr O → Bd h1 a B1 → CpD O B1 (bnd O) → (∀ r, r < k → bX B1 r = bX O r) → Off a (a + 71) h h1 → ls = (2, .int (nI k)) :: [(0, .ref a), (1, .ref g)] → GG (K, mX0_copyFrom, 0, 0, RetP none n (fun h' => ∃ B', Bd h' a B' ∧ Beq O B' ∧ Off a (a + 71) h h')) 0 0 55 ls [] n h1 := by
    intro f
    induction f with
    | zero =>
      intro k h1 B1 ls hk b9 c x o hl
      subst hl
      obtain ⟨b0, ⟨f1, b1, e1⟩, ⟨f2, b2, e2⟩, b3, b4, b5, b6⟩ := id b9
      have w9 := w.off o (by omega)
      obtain ⟨w0, -, -, w3, w4, w5, w6⟩ := id w9
      have c2 := c.2.1
      refine mj_iload_n 0 dX0_copyFrom_55 rfl ?_
      refine mj_aload_n 1 dX0_copyFrom_56 rfl ?_
      refine mj_getf dX0_copyFrom_57 fgX0_34 (by repeat (first | assumption | exact mup_s _ _ _ | rw [mup_n _ _ (by omega)])) rfl ?_
      refine mj_icmp_ge 82 dX0_copyFrom_60 (by decide) (fun c_60 => ?_) (fun c_60 => ?_)
      · exact mj_vret dX0_copyFrom_82 rfl (Nat.le_of_ble_eq_true rfl) (Nat.le_of_ble_eq_true rfl) ⟨rfl, rfl, ⟨B1, b9, ⟨c, by obtain rfl : k = bnr O := (by omega); exact x⟩, o⟩⟩
      · exact absurd (nI_le (show bnr B1 ≤ k by omega) (by omega)) c_60
    | succ f ih =>
      intro k h1 B1 ls hk b9 c x o hl
      subst hl
      obtain ⟨b0, ⟨f1, b1, e1⟩, ⟨f2, b2, e2⟩, b3, b4, b5, b6⟩ := id b9
      have w9 := w.off o (by omega)
      obtain ⟨w0, -, -, w3, w4, w5, w6⟩ := id w9
      have c2 := c.2.1
      refine mj_iload_n 0 dX0_copyFrom_55 rfl ?_
      refine mj_aload_n 1 dX0_copyFrom_56 rfl ?_
      refine mj_getf dX0_copyFrom_57 fgX0_34 (by repeat (first | assumption | exact mup_s _ _ _ | rw [mup_n _ _ (by omega)])) rfl ?_
      refine mj_icmp_ge 82 dX0_copyFrom_60 (by decide) (fun c_60 => ?_) (fun c_60 => ?_)
      · exact absurd c_60 (nI_ge (show k < bnr B1 by omega) (by omega))
      · refine mj_aload_n 1 dX0_copyFrom_63 rfl ?_
        refine mj_iload_n 0 dX0_copyFrom_64 rfl ?_
        refine mj_cV1 [_] (RX0, TX0, 5) dX0_copyFrom_65 cwX0_rider lkX0_45 (by repeat (first | assumption | exact mup_s _ _ _ | rw [mup_n _ _ (by omega)])) rfl rfl rfl rfl (cn_X0_rider b9 (j := k) rfl (by omega)) ⟨Nat.le_of_ble_eq_true rfl, Nat.le_of_ble_eq_true rfl, Nat.le_of_ble_eq_true rfl, Nat.le_of_ble_eq_true rfl, Nat.le_of_ble_eq_true rfl⟩ (fun h' e' => ?_)
        subst e'
        refine mj_aload_n 2 dX0_copyFrom_68 rfl ?_
        refine mj_iload_n 0 dX0_copyFrom_69 rfl ?_
        refine mj_cV1 [_] (RX0, TX0, 5) dX0_copyFrom_70 cwX0_rider lkX0_45 (by repeat (first | assumption | exact mup_s _ _ _ | rw [mup_n _ _ (by omega)])) rfl rfl rfl rfl (cn_X0_rider w9 (j := k) rfl (by omega)) ⟨Nat.le_of_ble_eq_true rfl, Nat.le_of_ble_eq_true rfl, Nat.le_of_ble_eq_true rfl, Nat.le_of_ble_eq_true rfl, Nat.le_of_ble_eq_true rfl⟩ (fun h' e' => ?_)
        subst e'
        refine mj_cV0 [_] (RX5, TX5, 10) dX0_copyFrom_73 cwX5_copyFrom lkX0_49 (b4 k (by omega)) rfl rfl rfl rfl (cn_X5_copyFrom (b4 k (by omega)) (w4 k (by omega)) (by omega)) ⟨Nat.le_of_ble_eq_true rfl, Nat.le_of_ble_eq_true rfl, Nat.le_of_ble_eq_true rfl, Nat.le_of_ble_eq_true rfl, Nat.le_of_ble_eq_true rfl⟩ (fun h' e' => ?_)
        obtain ⟨t1, t2⟩ := e'
        refine mj_iinc (ls' := [(2, _), (0, _), (1, _)]) 0 dX0_copyFrom_76 rfl (nI_s _) (Nat.le_of_ble_eq_true rfl) rfl ?_
        refine mj_goto 55 dX0_copyFrom_79 (by decide) ?_
        exact mj_ls [0, 1, 2] rfl (ih (k + 1) _ (b_setX B1 k (bX O k)) _ (by omega) (b9.setX (by omega) t1 (by rw [show a + 52 + k = a + 51 + k + 1 by omega]; exact t2)) c (fun r hr => by show vf_upd _ _ _ _ = _; by_cases e : r = k; (rw [e, vf_s]); (rw [vf_n _ _ e]; exact x r (by omega))) (o.tr (t2.up (by omega) (by omega))) rfl)
  have loop1 : ∀ (f : Nat) (k : Nat) (h1 : MH) (B1 : BS) (ls : List (Nat × Value)), k + f = bnd O → Bd h1 a B1 → CpD O B1 k → Off a (a + 71) h h1 → ls = (2, .int (nI k)) :: [(0, .ref a), (1, .ref g)] → GG (K, mX0_copyFrom, 0, 0, RetP none n (fun h' => ∃ B', Bd h' a B' ∧ Beq O B' ∧ Off a (a + 71) h h')) 0 0 26 ls [] n h1 := by
    intro f
    induction f with
    | zero =>
      intro k h1 B1 ls hk b9 c o hl
      subst hl
      obtain ⟨b0, ⟨f1, b1, e1⟩, ⟨f2, b2, e2⟩, b3, b4, b5, b6⟩ := id b9
      have w9 := w.off o (by omega)
      obtain ⟨w0, -, -, w3, w4, w5, w6⟩ := id w9
      have c1 := c.1
      refine mj_iload_n 0 dX0_copyFrom_26 rfl ?_
      refine mj_aload_n 1 dX0_copyFrom_27 rfl ?_
      refine mj_getf dX0_copyFrom_28 fgX0_31 (by repeat (first | assumption | exact mup_s _ _ _ | rw [mup_n _ _ (by omega)])) rfl ?_
      refine mj_icmp_ge 53 dX0_copyFrom_31 (by decide) (fun c_31 => ?_) (fun c_31 => ?_)
      · refine mj_iconst (v := 0) dX0_copyFrom_53 rfl ?_
        refine mj_istore_n (ls' := [(2, _), (0, _), (1, _)]) dX0_copyFrom_54 (Nat.le_of_ble_eq_true rfl) rfl ?_
        exact mj_ls [0, 1, 2] rfl (loop2 (bnr O) 0 h1 B1 _ (by omega) b9 (by obtain rfl : k = bnd O := (by omega); exact c) (fun r hr => absurd hr (by omega)) o rfl)
      · exact absurd (nI_le (show bnd B1 ≤ k by omega) (by omega)) c_31
    | succ f ih =>
      intro k h1 B1 ls hk b9 c o hl
      subst hl
      obtain ⟨b0, ⟨f1, b1, e1⟩, ⟨f2, b2, e2⟩, b3, b4, b5, b6⟩ := id b9
      have w9 := w.off o (by omega)
      obtain ⟨w0, -, -, w3, w4, w5, w6⟩ := id w9
      have c1 := c.1
      refine mj_iload_n 0 dX0_copyFrom_26 rfl ?_
      refine mj_aload_n 1 dX0_copyFrom_27 rfl ?_
      refine mj_getf dX0_copyFrom_28 fgX0_31 (by repeat (first | assumption | exact mup_s _ _ _ | rw [mup_n _ _ (by omega)])) rfl ?_
      refine mj_icmp_ge 53 dX0_copyFrom_31 (by decide) (fun c_31 => ?_) (fun c_31 => ?_)
      · exact absurd c_31 (nI_ge (show k < bnd B1 by omega) (by omega))
      · refine mj_aload_n 1 dX0_copyFrom_34 rfl ?_
        refine mj_iload_n 0 dX0_copyFrom_35 rfl ?_
        refine mj_cV1 [_] (RX0, TX0, 5) dX0_copyFrom_36 cwX0_driver lkX0_37 (by repeat (first | assumption | exact mup_s _ _ _ | rw [mup_n _ _ (by omega)])) rfl rfl rfl rfl (cn_X0_driver b9 (j := k) rfl (by omega)) ⟨Nat.le_of_ble_eq_true rfl, Nat.le_of_ble_eq_true rfl, Nat.le_of_ble_eq_true rfl, Nat.le_of_ble_eq_true rfl, Nat.le_of_ble_eq_true rfl⟩ (fun h' e' => ?_)
        subst e'
        refine mj_aload_n 2 dX0_copyFrom_39 rfl ?_
        refine mj_iload_n 0 dX0_copyFrom_40 rfl ?_
        refine mj_cV1 [_] (RX0, TX0, 5) dX0_copyFrom_41 cwX0_driver lkX0_37 (by repeat (first | assumption | exact mup_s _ _ _ | rw [mup_n _ _ (by omega)])) rfl rfl rfl rfl (cn_X0_driver w9 (j := k) rfl (by omega)) ⟨Nat.le_of_ble_eq_true rfl, Nat.le_of_ble_eq_true rfl, Nat.le_of_ble_eq_true rfl, Nat.le_of_ble_eq_true rfl, Nat.le_of_ble_eq_true rfl⟩ (fun h' e' => ?_)
        subst e'
        refine mj_cV0 [_] (RX1, TX1, 8) dX0_copyFrom_44 cwX1_copyFrom lkX0_41 ((b3 k (by omega)).1) rfl rfl rfl rfl (cn_X1_copyFrom (b3 k (by omega)) (w3 k (by omega)) (by omega)) ⟨Nat.le_of_ble_eq_true rfl, Nat.le_of_ble_eq_true rfl, Nat.le_of_ble_eq_true rfl, Nat.le_of_ble_eq_true rfl, Nat.le_of_ble_eq_true rfl⟩ (fun h' e' => ?_)
        obtain ⟨T', t1, t2, t3⟩ := e'
        refine mj_iinc (ls' := [(2, _), (0, _), (1, _)]) 0 dX0_copyFrom_47 rfl (nI_s _) (Nat.le_of_ble_eq_true rfl) rfl ?_
        refine mj_goto 26 dX0_copyFrom_50 (by decide) ?_
        exact mj_ls [0, 1, 2] rfl (ih (k + 1) _ _ _ (by omega) (b9.setDT (by omega) t1 (t3.up (by omega) (by omega))) (c.go t2) (o.tr (t3.up (by omega) (by omega))) rfl)
  have b9 := b
  have w9 := w
  obtain ⟨b0, ⟨f1, b1, e1⟩, ⟨f2, b2, e2⟩, b3, b4, b5, b6⟩ := id b9
  obtain ⟨w0, -, -, w3, w4, w5, w6⟩ := id w9
  refine mj_aload_n 0 dX0_copyFrom_0 rfl ?_
  refine mj_aload_n 1 dX0_copyFrom_1 rfl ?_
  refine mj_getf dX0_copyFrom_2 fgX0_31 (by repeat (first | assumption | exact mup_s _ _ _ | rw [mup_n _ _ (by omega)])) rfl ?_
  refine mj_putf dX0_copyFrom_5 fgX0_31 (by repeat (first | assumption | exact mup_s _ _ _ | rw [mup_n _ _ (by omega)])) rfl rfl rfl (Nat.le_of_ble_eq_true rfl) rfl ?_
  refine mj_aload_n 0 dX0_copyFrom_8 rfl ?_
  refine mj_aload_n 1 dX0_copyFrom_9 rfl ?_
  refine mj_getf dX0_copyFrom_10 fgX0_34 (by repeat (first | assumption | exact mup_s _ _ _ | rw [mup_n _ _ (by omega)])) rfl ?_
  refine mj_putf dX0_copyFrom_13 fgX0_34 (by repeat (first | assumption | exact mup_s _ _ _ | rw [mup_n _ _ (by omega)])) rfl rfl rfl (Nat.le_of_ble_eq_true rfl) rfl ?_
  refine mj_aload_n 0 dX0_copyFrom_16 rfl ?_
  refine mj_aload_n 1 dX0_copyFrom_17 rfl ?_
  refine mj_getf dX0_copyFrom_18 fgX0_23 (by repeat (first | assumption | exact mup_s _ _ _ | rw [mup_n _ _ (by omega)])) rfl ?_
  refine mj_putf dX0_copyFrom_21 fgX0_23 (by repeat (first | assumption | exact mup_s _ _ _ | rw [mup_n _ _ (by omega)])) rfl rfl rfl (Nat.le_of_ble_eq_true rfl) rfl ?_
  refine mj_iconst (v := 0) dX0_copyFrom_24 rfl ?_
  refine mj_istore_n (ls' := [(2, _), (0, _), (1, _)]) dX0_copyFrom_25 (Nat.le_of_ble_eq_true rfl) rfl ?_
  exact mj_ls [0, 1, 2] rfl (loop1 (bnd O) 0 _ (b_head B (bnd O) (bnr O) (bpe O)) _ (by omega) (b9.head (by repeat (first | assumption | exact mup_s _ _ _ | rw [mup_n _ _ (by omega)])) (by repeat (first | exact Off.rf | assumption | refine Off.m ?_ _ (by omega) (by omega))) w5 w6) ⟨rfl, rfl, rfl, fun d hd => absurd hd (by omega)⟩ (by repeat (first | exact Off.rf | assumption | refine Off.m ?_ _ (by omega) (by omega))) rfl)
/-- what stands while the board is built -/
def B0 (h : MH) (a kd kr : Nat) : Prop := h a = some (bdC a 0 0 500) ∧ (∃ f, h (a + 1) = some (cQ 4 8 f) ∧ ∀ d, d < kd → f d = some (a + 3 + 6 * d)) ∧ (∃ f, h (a + 2) = some (cQ 5 20 f) ∧ ∀ r, r < kr → f r = some (a + 51 + r)) ∧
  (∀ d, d < kd → ∃ T, Dr h (a + 3 + 6 * d) (nI d) (0, 0, 0, 0, false, 0) T) ∧ (∀ r, r < kr → h (a + 51 + r) = some (rdC (nI r) (0, 0, 0, 0, 0, 0, 0, -1, 0)))
theorem B0.d {h h' : MH} {a k : Nat} {T : RS} {f : Nat → Option Nat} (x : B0 h a k 0) (hk : k < 8) (e : Dr h' (a + 3 + 6 * k) (nI k) (0, 0, 0, 0, false, 0) T) (o : Off (a + 3 + 6 * k) (a + 9 + 6 * k) h h') (hf : h (a + 1) = some (cQ 4 8 f)) : B0 (mup h' (a + 1) (cQ 4 8 (va_up f k (some (a + 3 + 6 * k))))) a (k + 1) 0 := by
  obtain ⟨b0, ⟨f1, b1, e1⟩, ⟨g, b2, g2⟩, b3, b4⟩ := x
  obtain rfl : f = f1 := by have := b1.symm.trans hf; simp [cQ] at this; exact this.symm
  have m1 : ∀ q, q ≠ a + 1 → mup h' (a + 1) (cQ 4 8 (va_up f k (some (a + 3 + 6 * k)))) q = h' q := fun q hq => mup_n _ _ hq
  refine ⟨(m1 _ (by omega)).trans (o.at b0 (by omega)), ⟨_, mup_s _ _ _, fun d hd => ?_⟩, ⟨g, (m1 _ (by omega)).trans (o.at b2 (by omega)), g2⟩, fun d hd => ?_, fun r hr => absurd hr (by omega)⟩
  · by_cases q : d = k
    · subst q; exact if_pos rfl
    · exact (if_neg q).trans (e1 d (by omega))
  · by_cases q : d = k
    · subst q
      exact ⟨T, e.off (Off.m0 (a := a + 1) (b := a + 2) _ (by omega) (by omega)) (by omega)⟩
    · obtain ⟨T', t⟩ := b3 d (by omega)
      exact ⟨T', (t.off o (by omega)).off (Off.m0 (a := a + 1) (b := a + 2) _ (by omega) (by omega)) (by omega)⟩
theorem B0.r {h h' : MH} {a k : Nat} {f : Nat → Option Nat} (x : B0 h a 8 k) (hk : k < 20) (e : h' (a + 51 + k) = some (rdC (nI k) (0, 0, 0, 0, 0, 0, 0, -1, 0))) (o : Off (a + 51 + k) (a + 52 + k) h h') (hf : h (a + 2) = some (cQ 5 20 f)) : B0 (mup h' (a + 2) (cQ 5 20 (va_up f k (some (a + 51 + k))))) a 8 (k + 1) := by
  obtain ⟨b0, ⟨g, b1, g1⟩, ⟨f2, b2, e2⟩, b3, b4⟩ := x
  obtain rfl : f = f2 := by have := b2.symm.trans hf; simp [cQ] at this; exact this.symm
  have m1 : ∀ q, q ≠ a + 2 → mup h' (a + 2) (cQ 5 20 (va_up f k (some (a + 51 + k)))) q = h' q := fun q hq => mup_n _ _ hq
  refine ⟨(m1 _ (by omega)).trans (o.at b0 (by omega)), ⟨g, (m1 _ (by omega)).trans (o.at b1 (by omega)), g1⟩, ⟨_, mup_s _ _ _, fun d hd => ?_⟩, fun d hd => ?_, fun r hr => ?_⟩
  · by_cases q : d = k
    · subst q; exact if_pos rfl
    · exact (if_neg q).trans (e2 d (by omega))
  · obtain ⟨T', t⟩ := b3 d hd
    exact ⟨T', (t.off o (by omega)).off (Off.m0 (a := a + 2) (b := a + 3) _ (by omega) (by omega)) (by omega)⟩
  · by_cases q : r = k
    · subst q
      exact (m1 _ (by omega)).trans e
    · exact (m1 _ (by omega)).trans (o.at (b4 r (by omega)) (by omega))
def BZ (B : BS) : Prop := bnd B = 0 ∧ bnr B = 0 ∧ bpe B = 500
theorem B0.done {h : MH} {a : Nat} (x : B0 h a 8 20) : ∃ B, Bd h a B ∧ BZ B := by
  obtain ⟨b0, b1, b2, b3, b4⟩ := x
  have : ∃ T : Nat → RS, ∀ d, d < 8 → Dr h (a + 3 + 6 * d) (nI d) (0, 0, 0, 0, false, 0) (T d) := by
    refine ⟨fun d => if hd : d < 8 then Classical.choose (b3 d hd) else (0, fun _ => 0, fun _ => 0, fun _ => 0, fun _ => 0), fun d hd => ?_⟩
    dsimp only
    rw [dif_pos hd]
    exact Classical.choose_spec (b3 d hd)
  obtain ⟨T, hT⟩ := this
  exact ⟨(0, 0, 500, fun _ => (0, 0, 0, 0, false, 0), T, fun _ => (0, 0, 0, 0, 0, 0, 0, -1, 0)), ⟨b0, b1, b2, hT, b4, Nat.zero_le _, Nat.zero_le _⟩, rfl, rfl, rfl⟩
set_option maxRecDepth 100000 in
set_option maxHeartbeats 4000000 in
theorem cn_X0_init {K : KX} {n : Nat} {h : MH} {a : Nat} (hn : n = a + 1) (x : h a = some (cO 0 [.null, .null, .int 0, .int 0, .int 0])) : Con K mX0_init [.ref a] 70 1676 n h (RetP none (n + 70) (fun h' => ∃ B, Bd h' a B ∧ BZ B ∧ Off a (a + 71) h h')) := by
  refine Con.of (by decide +kernel) (Nat.le_of_ble_eq_true rfl) ?_
  subst hn
  have loop2 : ∀ (f : Nat) (k : Nat) (h1 : MH) (ls : List (Nat × Value)), k + f = 20 → B0 h1 a 8 k → Off a (a + 71) h h1 → ls = (1, .int (nI k)) :: [(0, .ref a)] → GG (K, mX0_init, 70, 1676, RetP none (a + 1 + 70) (fun h' => ∃ B, Bd h' a B ∧ BZ B ∧ Off a (a + 71) h h')) (50 + k) (1476 + 10 * k) 59 ls [] (a + 51 + k) h1 := by
    intro f
    induction f with
    | zero =>
      intro k h1 ls hk x o hl
      subst hl
      obtain rfl : k = 20 := (by omega)
      refine mj_iload_n 0 dX0_init_59 rfl ?_
      refine mj_bipush (v := (20)) dX0_init_60 rfl ?_
      refine mj_icmp_ge 85 dX0_init_62 (by decide) (fun c_62 => ?_) (fun c_62 => ?_)
      · obtain ⟨B, y1, y2⟩ := x.done
        exact mj_vret dX0_init_85 rfl (Nat.le_of_ble_eq_true rfl) (Nat.le_of_ble_eq_true rfl) ⟨rfl, rfl, B, y1, y2, o⟩
      · exact absurd (nI_le (show 20 ≤ 20 by omega) (by omega)) c_62
    | succ f ih =>
      intro k h1 ls hk x o hl
      subst hl
      obtain ⟨b0, b1, ⟨f2, b2, e2⟩, b3, b4⟩ := id x
      refine mj_iload_n 0 dX0_init_59 rfl ?_
      refine mj_bipush (v := (20)) dX0_init_60 rfl ?_
      refine mj_icmp_ge 85 dX0_init_62 (by decide) (fun c_62 => ?_) (fun c_62 => ?_)
      · exact absurd c_62 (nI_ge (show k < 20 by omega) (by decide))
      · refine mj_aload_n 1 dX0_init_65 rfl ?_
        refine mj_getf dX0_init_66 fgX0_19 (by repeat (first | assumption | exact mup_s _ _ _ | rw [mup_n _ _ (by omega)])) rfl ?_
        refine mj_iload_n 0 dX0_init_69 rfl ?_
        refine mj_new (N := 10) (fs := [.int 0, .int 0, .int 0, .int 0, .int 0, .int 0, .int 0, .int 0, .int 0, .long 0]) dX0_init_70 nfX0_17 (fun j hj => by match j, hj with | 0, _ => rfl | 1, _ => rfl | 2, _ => rfl | 3, _ => rfl | 4, _ => rfl | 5, _ => rfl | 6, _ => rfl | 7, _ => rfl | 8, _ => rfl | 9, _ => rfl | j + 10, h9 => exact absurd h9 (by omega)) (by show _ ≤ (70 : Nat); omega) (by show _ ≤ (1676 : Nat); omega) ?_
        refine mj_dup dX0_init_73 rfl ?_
        refine mj_iload_n 0 dX0_init_74 rfl ?_
        refine mj_cI0 [_] dX0_init_75 cwX5_init lkX0_30 rfl rfl (cn_X5_init (mup_s _ _ _)) ⟨Nat.le_of_ble_eq_true rfl, Nat.le_of_ble_eq_true rfl, Nat.le_of_ble_eq_true rfl, (by show _ ≤ (70 : Nat); omega), (by show _ ≤ (1676 : Nat); omega)⟩ (fun h' e' => ?_)
        obtain ⟨q1, q2⟩ := e'
        have oo : Off (a + 51 + k) (a + 52 + k) h1 h' := (Off.m0 _ (by omega) (by omega)).tr (q2.up (by omega) (by omega))
        refine mj_aastR (oo.at b2 (by omega)) q1 (ixn (by omega)) (by omega) dX0_init_78 ?_
        refine mj_iinc (ls' := [(1, _), (0, _)]) 0 dX0_init_79 rfl (nI_s _) (Nat.le_of_ble_eq_true rfl) rfl ?_
        refine mj_goto 59 dX0_init_82 (by decide) ?_
        refine mj_ls [0, 1] rfl ?_
        have y := ih (k + 1) _ _ (by omega) (x.r (by omega) q1 oo b2) ((o.tr (oo.up (by omega) (by omega))).m _ (by omega) (by omega)) rfl
        exact y
  have loop1 : ∀ (f : Nat) (k : Nat) (h1 : MH) (ls : List (Nat × Value)), k + f = 8 → B0 h1 a k 0 → Off a (a + 71) h h1 → ls = (1, .int (nI k)) :: [(0, .ref a)] → GG (K, mX0_init, 70, 1676, RetP none (a + 1 + 70) (fun h' => ∃ B, Bd h' a B ∧ BZ B ∧ Off a (a + 71) h h')) (2 + 6 * k) (28 + 181 * k) 31 ls [] (a + 3 + 6 * k) h1 := by
    intro f
    induction f with
    | zero =>
      intro k h1 ls hk x o hl
      subst hl
      obtain rfl : k = 8 := (by omega)
      refine mj_iload_n 0 dX0_init_31 rfl ?_
      refine mj_bipush (v := (8)) dX0_init_32 rfl ?_
      refine mj_icmp_ge 57 dX0_init_34 (by decide) (fun c_34 => ?_) (fun c_34 => ?_)
      · refine mj_iconst (v := 0) dX0_init_57 rfl ?_
        refine mj_istore_n (ls' := [(1, _), (0, _)]) dX0_init_58 (Nat.le_of_ble_eq_true rfl) rfl ?_
        exact mj_ls [0, 1] rfl (loop2 20 0 h1 _ (by omega) x o rfl)
      · exact absurd (nI_le (show 8 ≤ 8 by omega) (by omega)) c_34
    | succ f ih =>
      intro k h1 ls hk x o hl
      subst hl
      obtain ⟨b0, ⟨f1, b1, e1⟩, b2, b3, b4⟩ := id x
      refine mj_iload_n 0 dX0_init_31 rfl ?_
      refine mj_bipush (v := (8)) dX0_init_32 rfl ?_
      refine mj_icmp_ge 57 dX0_init_34 (by decide) (fun c_34 => ?_) (fun c_34 => ?_)
      · exact absurd c_34 (nI_ge (show k < 8 by omega) (by decide))
      · refine mj_aload_n 1 dX0_init_37 rfl ?_
        refine mj_getf dX0_init_38 fgX0_11 (by repeat (first | assumption | exact mup_s _ _ _ | rw [mup_n _ _ (by omega)])) rfl ?_
        refine mj_iload_n 0 dX0_init_41 rfl ?_
        refine mj_new (N := 8) (fs := [.int 0, .null, .int 0, .int 0, .int 0, .int 0, .int 0, .long 0]) dX0_init_42 nfX0_9 (fun j hj => by match j, hj with | 0, _ => rfl | 1, _ => rfl | 2, _ => rfl | 3, _ => rfl | 4, _ => rfl | 5, _ => rfl | 6, _ => rfl | 7, _ => rfl | j + 8, h9 => exact absurd h9 (by omega)) (by show _ ≤ (70 : Nat); omega) (by show _ ≤ (1676 : Nat); omega) ?_
        refine mj_dup dX0_init_45 rfl ?_
        refine mj_iload_n 0 dX0_init_46 rfl ?_
        refine mj_cI0 [_] dX0_init_47 cwX1_init lkX0_27 rfl rfl (cn_X1_init rfl (mup_s _ _ _)) ⟨Nat.le_of_ble_eq_true rfl, Nat.le_of_ble_eq_true rfl, Nat.le_of_ble_eq_true rfl, (by show _ ≤ (70 : Nat); omega), (by show _ ≤ (1676 : Nat); omega)⟩ (fun h' e' => ?_)
        obtain ⟨T, q1, q2⟩ := e'
        have oo : Off (a + 3 + 6 * k) (a + 9 + 6 * k) h1 h' := (Off.m0 _ (by omega) (by omega)).tr (q2.up (by omega) (by omega))
        refine mj_aastD (oo.at b1 (by omega)) q1.1 (ixn (by omega)) (by omega) dX0_init_50 ?_
        refine mj_iinc (ls' := [(1, _), (0, _)]) 0 dX0_init_51 rfl (nI_s _) (Nat.le_of_ble_eq_true rfl) rfl ?_
        refine mj_goto 31 dX0_init_54 (by decide) ?_
        refine mj_ls [0, 1] rfl ?_
        have y := ih (k + 1) _ _ (by omega) (x.d (by omega) q1 oo b1) ((o.tr (oo.up (by omega) (by omega))).m _ (by omega) (by omega)) rfl
        rw [show a + 3 + 6 * (k + 1) = a + 3 + 6 * k + 1 + 5 by omega, show 2 + 6 * (k + 1) = 2 + 6 * k + 1 + 5 by omega, show 28 + 181 * (k + 1) = 28 + 181 * k + 8 + 173 by omega] at y
        exact y
  refine mj_aload_n 0 dX0_init_0 rfl ?_
  refine mj_objInit dX0_init_1 mlX0_3 im_obj cd_obj (Nat.le_of_ble_eq_true rfl) (Nat.le_of_ble_eq_true rfl) ?_
  refine mj_aload_n 0 dX0_init_4 rfl ?_
  refine mj_bipush (v := (8)) dX0_init_5 rfl ?_
  refine mj_newqD dX0_init_7 clX0_9 ao_D (show (8 : Int32).toInt = ((8 : Nat) : Int) from rfl) (by omega) (by show _ ≤ (70 : Nat); omega) (by show _ ≤ (1676 : Nat); omega) ?_
  refine mj_putG dX0_init_10 ffX0_11 (by repeat (first | assumption | exact mup_s _ _ _ | rw [mup_n _ _ (by omega)])) rfl rfl (by intro r h9; cases h9; rfl) rfl rfl (Nat.le_of_ble_eq_true rfl) rfl ?_
  refine mj_aload_n 0 dX0_init_13 rfl ?_
  refine mj_bipush (v := (20)) dX0_init_14 rfl ?_
  refine mj_newqR dX0_init_16 clX0_17 ao_R (show (20 : Int32).toInt = ((20 : Nat) : Int) from rfl) (by omega) (by show _ ≤ (70 : Nat); omega) (by show _ ≤ (1676 : Nat); omega) ?_
  refine mj_putG dX0_init_19 ffX0_19 (by repeat (first | assumption | exact mup_s _ _ _ | rw [mup_n _ _ (by omega)])) rfl rfl (by intro r h9; cases h9; rfl) rfl rfl (Nat.le_of_ble_eq_true rfl) rfl ?_
  refine mj_aload_n 0 dX0_init_22 rfl ?_
  refine mj_sipush (v := (500)) dX0_init_23 rfl ?_
  refine mj_putf dX0_init_26 fgX0_23 (by repeat (first | assumption | exact mup_s _ _ _ | rw [mup_n _ _ (by omega)])) rfl rfl rfl (Nat.le_of_ble_eq_true rfl) rfl ?_
  refine mj_iconst (v := 0) dX0_init_29 rfl ?_
  refine mj_istore_n (ls' := [(1, _), (0, _)]) dX0_init_30 (Nat.le_of_ble_eq_true rfl) rfl ?_
  exact mj_ls [0, 1] rfl (loop1 8 0 _ _ (by omega) ⟨(by repeat (first | assumption | exact mup_s _ _ _ | rw [mup_n _ _ (by omega)])), ⟨_, (by repeat (first | assumption | exact mup_s _ _ _ | rw [mup_n _ _ (by omega)])), fun d hd => absurd hd (by omega)⟩, ⟨_, (by repeat (first | assumption | exact mup_s _ _ _ | rw [mup_n _ _ (by omega)])), fun d hd => absurd hd (by omega)⟩, fun d hd => absurd hd (by omega), fun d hd => absurd hd (by omega)⟩ (by repeat (first | exact Off.rf | assumption | refine Off.m ?_ _ (by omega) (by omega))) rfl)
