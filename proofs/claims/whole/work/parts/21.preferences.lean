-- PREFERENCES: object at p, the outer array at p + 1, the rows at p + 2 ..
def Pf (h : MH) (p : Nat) (S : Nat → Nat → Int32) : Prop := h p = some (cO 4 [.ref (p + 1)]) ∧ (∃ f, h (p + 1) = some (cQ 6 8 f) ∧ ∀ d, d < 8 → f d = some (p + 2 + d)) ∧ ∀ d, d < 8 → h (p + 2 + d) = some (cI 20 (S d))
theorem Pf.at {h h' : MH} {p : Nat} {S : Nat → Nat → Int32} (x : Pf h p S) (e : ∀ q, p ≤ q → q < p + 10 → h' q = h q) : Pf h' p S := by
  obtain ⟨x0, ⟨f, x1, f1⟩, x2⟩ := x
  exact ⟨(e _ (by omega) (by omega)).trans x0, ⟨f, (e _ (by omega) (by omega)).trans x1, f1⟩, fun d hd => (e _ (by omega) (by omega)).trans (x2 d hd)⟩
theorem Pf.off {h h' : MH} {p c d : Nat} {S : Nat → Nat → Int32} (x : Pf h p S) (o : Off c d h h') (e : p + 10 ≤ c ∨ d ≤ p) : Pf h' p S := x.at fun q h1 h2 => o q (by omega)
def p_fit (S : Nat → Nat → Int32) (d r : Nat) : Bool := decide (¬ S d r = -1)
def p_price (B : BS) (S : Nat → Nat → Int32) (d r : Nat) : Int32 := S d r * dra (bD B d)
def p_rpref (B : BS) (S : Nat → Nat → Int32) (r d e : Nat) : Bool := decide (p_price B S d r < p_price B S e r) || (decide (p_price B S d r = p_price B S e r) && decide (d < e))
def p_dpref (B : BS) (S : Nat → Nat → Int32) (d r q : Nat) : Bool := if S d r = S d q then (decide (qcr (bX B q) < qcr (bX B r)) || (decide (qcr (bX B r) = qcr (bX B q)) && decide (r < q))) else decide (S d r < S d q)
def p_cand (B : BS) (S : Nat → Nat → Int32) (d r : Nat) : Bool := (decide (qst (bX B r) = 0) || decide (qst (bX B r) = 1)) && p_fit S d r
def i_count (P : Nat → Bool) : Nat → Nat
  | 0 => 0
  | k + 1 => i_count P k + if P k then 1 else 0
theorem i_count_le (P : Nat → Bool) : ∀ k, i_count P k ≤ k
  | 0 => Nat.le_refl 0
  | k + 1 => by
    have := i_count_le P k
    simp only [i_count]
    split <;> omega
def i_first (P : Nat → Bool) : Nat → Nat → Int32
  | 0, _ => -1
  | f + 1, k => if P k then nI k else i_first P f (k + 1)
def i_any (P : Nat → Bool) : Nat → Nat → Bool
  | 0, _ => false
  | f + 1, k => if P k then true else i_any P f (k + 1)
def p_dbef (B : BS) (S : Nat → Nat → Int32) (r d : Nat) : Nat := i_count (fun e => p_fit S e r && p_rpref B S r e d) (bnd B)
def p_rbef (B : BS) (S : Nat → Nat → Int32) (d r : Nat) : Nat := i_count (fun q => p_cand B S d q && p_dpref B S d q r) (bnr B)
def p_dat (B : BS) (S : Nat → Nat → Int32) (r : Nat) (pl : Int32) : Int32 := i_first (fun d => p_fit S d r && decide (nI (p_dbef B S r d) = pl)) (bnd B) 0
def p_rat (B : BS) (S : Nat → Nat → Int32) (d : Nat) (pl : Int32) : Int32 := i_first (fun r => p_cand B S d r && decide (nI (p_rbef B S d r) = pl)) (bnr B) 0
def p_some (B : BS) (S : Nat → Nat → Int32) (d r : Nat) : Bool := i_any (fun q => decide (qdr (bX B q) = nI d) && p_dpref B S d r q) (bnr B) 0
def i_nat (v : Int32) : Nat := v.toInt.toNat
theorem i_nat_nI {j : Nat} (h : j < 2147483648) : i_nat (nI j) = j := by unfold i_nat; rw [ixn h]; omega
def p_block (B : BS) (S : Nat → Nat → Int32) (d r : Nat) : Bool :=
  if p_cand B S d r && !decide (qdr (bX B r) = nI d) then (decide (qst (bX B r) = 0) || p_rpref B S r d (i_nat (qdr (bX B r)))) && (decide ((nI (rn (bT B d)) - 2) / 2 < dse (bD B d)) || p_some B S d r) else false
theorem gc_gt {x y : Int64} : 0 < lg_cmp x y ↔ y < x := by
  unfold lg_cmp
  by_cases h1 : x > y
  · rw [if_pos h1]; simp; exact h1
  · rw [if_neg h1]
    by_cases h2 : x = y
    · rw [if_pos h2]; simp [h1]
    · rw [if_neg h2]; simp; exact Int64.not_lt.mp h1
theorem nI_inj {a b : Nat} (ha : a < 2147483648) (hb : b < 2147483648) : nI a = nI b ↔ a = b := ⟨fun h => by have := congrArg Int32.toInt h; rw [ixn ha, ixn hb] at this; omega, fun h => by rw [h]⟩
set_option maxRecDepth 100000 in
set_option maxHeartbeats 4000000 in
theorem cn_X4_areFitting {K : KX} {n : Nat} {h : MH} {p a d r : Nat} {B : BS} {S : Nat → Nat → Int32} (x : Pf h p S) (b : Bd h a B) (hd : d < 8) (hr : r < 20) : Con K mX4_areFitting [.ref p, .ref (a + 3 + 6 * d), .ref (a + 51 + r)] 0 0 n h (Ret (some (.int (bI (p_fit S d r)))) n h) := by
  have x9 := x
  have b9 := b
  have b5 := b.2.2.2.2.2.1
  have b6 := b.2.2.2.2.2.2
  obtain ⟨x0, ⟨fs, x1, f1⟩, x2⟩ := x
  have b0 := b.1
  have bx := b.2.2.2.2.1 r hr
  obtain ⟨be, bt⟩ := b.2.2.2.1 d hd
  refine Con.of (by decide +kernel) (Nat.le_of_ble_eq_true rfl) ?_
  refine mj_aload_n 0 dX4_areFitting_0 rfl ?_
  refine mj_getf dX4_areFitting_1 fgX4_11 (by repeat (first | assumption | exact mup_s _ _ _ | rw [mup_n _ _ (by omega)])) rfl ?_
  refine mj_aload_n 1 dX4_areFitting_4 rfl ?_
  refine mj_getf dX4_areFitting_5 fgX4_45 (by repeat (first | assumption | exact mup_s _ _ _ | rw [mup_n _ _ (by omega)])) rfl ?_
  refine mj_aaldI (by repeat (first | assumption | exact mup_s _ _ _ | rw [mup_n _ _ (by omega)])) (ixn (by omega)) (show d < 8 by omega) dX4_areFitting_8 ?_
  rw [f1 d (by omega)]
  have xr_d := x2 d (by omega)
  refine mj_aload_n 2 dX4_areFitting_9 rfl ?_
  refine mj_getf dX4_areFitting_10 fgX4_48 (by repeat (first | assumption | exact mup_s _ _ _ | rw [mup_n _ _ (by omega)])) rfl ?_
  refine mj_iald (by repeat (first | assumption | exact mup_s _ _ _ | rw [mup_n _ _ (by omega)])) (by first | assumption | rfl | exact ixn (by omega)) (by first | assumption | decide | omega) dX4_areFitting_13 ?_
  refine mj_iconst (v := (-1)) dX4_areFitting_14 rfl ?_
  refine mj_icmp_eq 22 dX4_areFitting_15 (by decide) (fun c_15 => ?_) (fun c_15 => ?_)
  · refine mj_iconst (v := 0) dX4_areFitting_22 rfl ?_
    exact mj_zret dX4_areFitting_23 rfl (by first | exact Or.inl rfl | exact Or.inr rfl) (Nat.le_of_ble_eq_true rfl) (Nat.le_of_ble_eq_true rfl) ⟨(by first | (rw [show p_fit S d r = true from decide_eq_true c_15]; rfl) | (rw [show p_fit S d r = false from decide_eq_false (fun z => z c_15)]; rfl)), rfl, rfl⟩
  · refine mj_iconst (v := 1) dX4_areFitting_18 rfl ?_
    refine mj_goto 23 dX4_areFitting_19 (by decide) ?_
    exact mj_zret dX4_areFitting_23 rfl (by first | exact Or.inl rfl | exact Or.inr rfl) (Nat.le_of_ble_eq_true rfl) (Nat.le_of_ble_eq_true rfl) ⟨(by first | (rw [show p_fit S d r = true from decide_eq_true c_15]; rfl) | (rw [show p_fit S d r = false from decide_eq_false (fun z => z c_15)]; rfl)), rfl, rfl⟩
set_option maxRecDepth 100000 in
set_option maxHeartbeats 4000000 in
theorem cn_X4_price {K : KX} {n : Nat} {h : MH} {p a d r : Nat} {B : BS} {S : Nat → Nat → Int32} (x : Pf h p S) (b : Bd h a B) (hd : d < 8) (hr : r < 20) : Con K mX4_price [.ref p, .ref (a + 3 + 6 * d), .ref (a + 51 + r)] 0 0 n h (Ret (some (.int (p_price B S d r))) n h) := by
  have x9 := x
  have b9 := b
  have b5 := b.2.2.2.2.2.1
  have b6 := b.2.2.2.2.2.2
  obtain ⟨x0, ⟨fs, x1, f1⟩, x2⟩ := x
  have b0 := b.1
  have bx := b.2.2.2.2.1 r hr
  obtain ⟨be, bt⟩ := b.2.2.2.1 d hd
  refine Con.of (by decide +kernel) (Nat.le_of_ble_eq_true rfl) ?_
  refine mj_aload_n 0 dX4_price_0 rfl ?_
  refine mj_getf dX4_price_1 fgX4_11 (by repeat (first | assumption | exact mup_s _ _ _ | rw [mup_n _ _ (by omega)])) rfl ?_
  refine mj_aload_n 1 dX4_price_4 rfl ?_
  refine mj_getf dX4_price_5 fgX4_45 (by repeat (first | assumption | exact mup_s _ _ _ | rw [mup_n _ _ (by omega)])) rfl ?_
  refine mj_aaldI (by repeat (first | assumption | exact mup_s _ _ _ | rw [mup_n _ _ (by omega)])) (ixn (by omega)) (show d < 8 by omega) dX4_price_8 ?_
  rw [f1 d (by omega)]
  have xr_d := x2 d (by omega)
  refine mj_aload_n 2 dX4_price_9 rfl ?_
  refine mj_getf dX4_price_10 fgX4_48 (by repeat (first | assumption | exact mup_s _ _ _ | rw [mup_n _ _ (by omega)])) rfl ?_
  refine mj_iald (by repeat (first | assumption | exact mup_s _ _ _ | rw [mup_n _ _ (by omega)])) (by first | assumption | rfl | exact ixn (by omega)) (by first | assumption | decide | omega) dX4_price_13 ?_
  refine mj_aload_n 1 dX4_price_14 rfl ?_
  refine mj_getf dX4_price_15 fgX4_51 (by repeat (first | assumption | exact mup_s _ _ _ | rw [mup_n _ _ (by omega)])) rfl ?_
  refine mj_imul dX4_price_18 ?_
  exact mj_iret dX4_price_19 rfl (Nat.le_of_ble_eq_true rfl) (Nat.le_of_ble_eq_true rfl) ⟨rfl, rfl, rfl⟩
set_option maxRecDepth 100000 in
set_option maxHeartbeats 4000000 in
theorem cn_X4_riderPrefers {K : KX} {n : Nat} {h : MH} {p a d r : Nat} {B : BS} {S : Nat → Nat → Int32} (x : Pf h p S) (b : Bd h a B) {e : Nat} (hd : d < 8) (he : e < 8) (hr : r < 20) : Con K mX4_riderPrefers [.ref p, .ref (a + 51 + r), .ref (a + 3 + 6 * d), .ref (a + 3 + 6 * e)] 0 0 n h (Ret (some (.int (bI (p_rpref B S r d e)))) n h) := by
  have x9 := x
  have b9 := b
  have b5 := b.2.2.2.2.2.1
  have b6 := b.2.2.2.2.2.2
  obtain ⟨x0, ⟨fs, x1, f1⟩, x2⟩ := x
  have b0 := b.1
  have bx := b.2.2.2.2.1 r hr
  obtain ⟨be, bt⟩ := b.2.2.2.1 d hd
  obtain ⟨be2, bt2⟩ := b.2.2.2.1 e he
  refine Con.of (by decide +kernel) (Nat.le_of_ble_eq_true rfl) ?_
  refine mj_aload_n 0 dX4_riderPrefers_0 rfl ?_
  refine mj_aload_n 2 dX4_riderPrefers_1 rfl ?_
  refine mj_aload_n 1 dX4_riderPrefers_2 rfl ?_
  refine mj_cV1 [_, _] (RX4, TX4, 1) dX4_riderPrefers_3 cwX4_price lkX4_54 x0 rfl rfl rfl rfl (cn_X4_price x9 b9 hd hr) ⟨Nat.le_of_ble_eq_true rfl, Nat.le_of_ble_eq_true rfl, Nat.le_of_ble_eq_true rfl, Nat.le_of_ble_eq_true rfl, Nat.le_of_ble_eq_true rfl⟩ (fun h' e' => ?_)
  subst e'
  refine mj_istore (ls' := [(4, _), (0, _), (1, _), (2, _), (3, _)]) dX4_riderPrefers_6 (Nat.le_of_ble_eq_true rfl) rfl ?_
  refine mj_aload_n 1 dX4_riderPrefers_8 rfl ?_
  refine mj_aload_n 4 dX4_riderPrefers_9 rfl ?_
  refine mj_aload_n 2 dX4_riderPrefers_10 rfl ?_
  refine mj_cV1 [_, _] (RX4, TX4, 1) dX4_riderPrefers_11 cwX4_price lkX4_54 x0 rfl rfl rfl rfl (cn_X4_price x9 b9 he hr) ⟨Nat.le_of_ble_eq_true rfl, Nat.le_of_ble_eq_true rfl, Nat.le_of_ble_eq_true rfl, Nat.le_of_ble_eq_true rfl, Nat.le_of_ble_eq_true rfl⟩ (fun h' e' => ?_)
  subst e'
  refine mj_istore (ls' := [(5, _), (4, _), (0, _), (1, _), (2, _), (3, _)]) dX4_riderPrefers_14 (Nat.le_of_ble_eq_true rfl) rfl ?_
  refine mj_iload 1 dX4_riderPrefers_16 rfl ?_
  refine mj_iload 0 dX4_riderPrefers_18 rfl ?_
  refine mj_icmp_lt 41 dX4_riderPrefers_20 (by decide) (fun c_20 => ?_) (fun c_20 => ?_)
  · refine mj_iconst (v := 1) dX4_riderPrefers_41 rfl ?_
    refine mj_goto 46 dX4_riderPrefers_42 (by decide) ?_
    exact mj_zret dX4_riderPrefers_46 rfl (by first | exact Or.inl rfl | exact Or.inr rfl) (Nat.le_of_ble_eq_true rfl) (Nat.le_of_ble_eq_true rfl) ⟨(by unfold p_rpref; simp [bI, *]), rfl, rfl⟩
  · refine mj_iload 1 dX4_riderPrefers_23 rfl ?_
    refine mj_iload 0 dX4_riderPrefers_25 rfl ?_
    refine mj_icmp_ne 45 dX4_riderPrefers_27 (by decide) (fun c_27 => ?_) (fun c_27 => ?_)
    · refine mj_iconst (v := 0) dX4_riderPrefers_45 rfl ?_
      exact mj_zret dX4_riderPrefers_46 rfl (by first | exact Or.inl rfl | exact Or.inr rfl) (Nat.le_of_ble_eq_true rfl) (Nat.le_of_ble_eq_true rfl) ⟨(by unfold p_rpref; simp [bI, *]), rfl, rfl⟩
    · refine mj_aload_n 4 dX4_riderPrefers_30 rfl ?_
      refine mj_getf dX4_riderPrefers_31 fgX4_45 (by repeat (first | assumption | exact mup_s _ _ _ | rw [mup_n _ _ (by omega)])) rfl ?_
      refine mj_aload_n 5 dX4_riderPrefers_34 rfl ?_
      refine mj_getf dX4_riderPrefers_35 fgX4_45 (by repeat (first | assumption | exact mup_s _ _ _ | rw [mup_n _ _ (by omega)])) rfl ?_
      refine mj_icmp_ge 45 dX4_riderPrefers_38 (by decide) (fun c_38 => ?_) (fun c_38 => ?_)
      · have z : ¬ d < e := fun z => nI_ge z (by omega) c_38
        refine mj_iconst (v := 0) dX4_riderPrefers_45 rfl ?_
        exact mj_zret dX4_riderPrefers_46 rfl (by first | exact Or.inl rfl | exact Or.inr rfl) (Nat.le_of_ble_eq_true rfl) (Nat.le_of_ble_eq_true rfl) ⟨(by unfold p_rpref; simp [bI, *]), rfl, rfl⟩
      · have z : d < e := Nat.lt_of_not_le fun z => c_38 (nI_le z (by omega))
        refine mj_iconst (v := 1) dX4_riderPrefers_41 rfl ?_
        refine mj_goto 46 dX4_riderPrefers_42 (by decide) ?_
        exact mj_zret dX4_riderPrefers_46 rfl (by first | exact Or.inl rfl | exact Or.inr rfl) (Nat.le_of_ble_eq_true rfl) (Nat.le_of_ble_eq_true rfl) ⟨(by unfold p_rpref; simp [bI, *]), rfl, rfl⟩
set_option maxRecDepth 100000 in
set_option maxHeartbeats 4000000 in
theorem cn_X4_driverPrefers {K : KX} {n : Nat} {h : MH} {p a d r : Nat} {B : BS} {S : Nat → Nat → Int32} (x : Pf h p S) (b : Bd h a B) {q : Nat} (hd : d < 8) (hr : r < 20) (hq : q < 20) : Con K mX4_driverPrefers [.ref p, .ref (a + 3 + 6 * d), .ref (a + 51 + r), .ref (a + 51 + q)] 0 0 n h (Ret (some (.int (bI (p_dpref B S d r q)))) n h) := by
  have x9 := x
  have b9 := b
  have b5 := b.2.2.2.2.2.1
  have b6 := b.2.2.2.2.2.2
  obtain ⟨x0, ⟨fs, x1, f1⟩, x2⟩ := x
  have b0 := b.1
  have bx := b.2.2.2.2.1 r hr
  obtain ⟨be, bt⟩ := b.2.2.2.1 d hd
  have bq := b.2.2.2.2.1 q hq
  refine Con.of (by decide +kernel) (Nat.le_of_ble_eq_true rfl) ?_
  refine mj_aload_n 0 dX4_driverPrefers_0 rfl ?_
  refine mj_getf dX4_driverPrefers_1 fgX4_11 (by repeat (first | assumption | exact mup_s _ _ _ | rw [mup_n _ _ (by omega)])) rfl ?_
  refine mj_aload_n 1 dX4_driverPrefers_4 rfl ?_
  refine mj_getf dX4_driverPrefers_5 fgX4_45 (by repeat (first | assumption | exact mup_s _ _ _ | rw [mup_n _ _ (by omega)])) rfl ?_
  refine mj_aaldI (by repeat (first | assumption | exact mup_s _ _ _ | rw [mup_n _ _ (by omega)])) (ixn (by omega)) (show d < 8 by omega) dX4_driverPrefers_8 ?_
  rw [f1 d (by omega)]
  have xr_d := x2 d (by omega)
  refine mj_aload_n 2 dX4_driverPrefers_9 rfl ?_
  refine mj_getf dX4_driverPrefers_10 fgX4_48 (by repeat (first | assumption | exact mup_s _ _ _ | rw [mup_n _ _ (by omega)])) rfl ?_
  refine mj_iald (by repeat (first | assumption | exact mup_s _ _ _ | rw [mup_n _ _ (by omega)])) (by first | assumption | rfl | exact ixn (by omega)) (by first | assumption | decide | omega) dX4_driverPrefers_13 ?_
  refine mj_istore (ls' := [(4, _), (0, _), (1, _), (2, _), (3, _)]) dX4_driverPrefers_14 (Nat.le_of_ble_eq_true rfl) rfl ?_
  refine mj_aload_n 1 dX4_driverPrefers_16 rfl ?_
  refine mj_getf dX4_driverPrefers_17 fgX4_11 (by repeat (first | assumption | exact mup_s _ _ _ | rw [mup_n _ _ (by omega)])) rfl ?_
  refine mj_aload_n 2 dX4_driverPrefers_20 rfl ?_
  refine mj_getf dX4_driverPrefers_21 fgX4_45 (by repeat (first | assumption | exact mup_s _ _ _ | rw [mup_n _ _ (by omega)])) rfl ?_
  refine mj_aaldI (by repeat (first | assumption | exact mup_s _ _ _ | rw [mup_n _ _ (by omega)])) (ixn (by omega)) (show d < 8 by omega) dX4_driverPrefers_24 ?_
  rw [f1 d (by omega)]
  have xr_d := x2 d (by omega)
  refine mj_aload_n 4 dX4_driverPrefers_25 rfl ?_
  refine mj_getf dX4_driverPrefers_26 fgX4_48 (by repeat (first | assumption | exact mup_s _ _ _ | rw [mup_n _ _ (by omega)])) rfl ?_
  refine mj_iald (by repeat (first | assumption | exact mup_s _ _ _ | rw [mup_n _ _ (by omega)])) (by first | assumption | rfl | exact ixn (by omega)) (by first | assumption | decide | omega) dX4_driverPrefers_29 ?_
  refine mj_istore (ls' := [(5, _), (4, _), (0, _), (1, _), (2, _), (3, _)]) dX4_driverPrefers_30 (Nat.le_of_ble_eq_true rfl) rfl ?_
  refine mj_iload 1 dX4_driverPrefers_32 rfl ?_
  refine mj_iload 0 dX4_driverPrefers_34 rfl ?_
  refine mj_icmp_eq 52 dX4_driverPrefers_36 (by decide) (fun c_36 => ?_) (fun c_36 => ?_)
  · refine mj_aload_n 4 dX4_driverPrefers_52 rfl ?_
    refine mj_getf dX4_driverPrefers_53 fgX4_58 (by repeat (first | assumption | exact mup_s _ _ _ | rw [mup_n _ _ (by omega)])) rfl ?_
    refine mj_aload_n 5 dX4_driverPrefers_56 rfl ?_
    refine mj_getf dX4_driverPrefers_57 fgX4_58 (by repeat (first | assumption | exact mup_s _ _ _ | rw [mup_n _ _ (by omega)])) rfl ?_
    refine mj_lcmp dX4_driverPrefers_60 ?_
    refine mj_if_gt 87 dX4_driverPrefers_61 (by decide) (fun c_61 => ?_) (fun c_61 => ?_)
    · have z1 := gc_gt.mp c_61
      refine mj_iconst (v := 1) dX4_driverPrefers_87 rfl ?_
      refine mj_goto 92 dX4_driverPrefers_88 (by decide) ?_
      exact mj_zret dX4_driverPrefers_92 rfl (by first | exact Or.inl rfl | exact Or.inr rfl) (Nat.le_of_ble_eq_true rfl) (Nat.le_of_ble_eq_true rfl) ⟨(by unfold p_dpref; simp [bI, *]), rfl, rfl⟩
    · have z1 : ¬ _ := fun z => c_61 (gc_gt.mpr z)
      refine mj_aload_n 4 dX4_driverPrefers_64 rfl ?_
      refine mj_getf dX4_driverPrefers_65 fgX4_58 (by repeat (first | assumption | exact mup_s _ _ _ | rw [mup_n _ _ (by omega)])) rfl ?_
      refine mj_aload_n 5 dX4_driverPrefers_68 rfl ?_
      refine mj_getf dX4_driverPrefers_69 fgX4_58 (by repeat (first | assumption | exact mup_s _ _ _ | rw [mup_n _ _ (by omega)])) rfl ?_
      refine mj_lcmp dX4_driverPrefers_72 ?_
      refine mj_if_ne 91 dX4_driverPrefers_73 (by decide) (fun c_73 => ?_) (fun c_73 => ?_)
      · have z2 : ¬ _ := fun z => c_73 (lgc_eq.mpr z)
        refine mj_iconst (v := 0) dX4_driverPrefers_91 rfl ?_
        exact mj_zret dX4_driverPrefers_92 rfl (by first | exact Or.inl rfl | exact Or.inr rfl) (Nat.le_of_ble_eq_true rfl) (Nat.le_of_ble_eq_true rfl) ⟨(by unfold p_dpref; simp [bI, *]), rfl, rfl⟩
      · have z2 := lgc_eq.mp c_73
        refine mj_aload_n 4 dX4_driverPrefers_76 rfl ?_
        refine mj_getf dX4_driverPrefers_77 fgX4_48 (by repeat (first | assumption | exact mup_s _ _ _ | rw [mup_n _ _ (by omega)])) rfl ?_
        refine mj_aload_n 5 dX4_driverPrefers_80 rfl ?_
        refine mj_getf dX4_driverPrefers_81 fgX4_48 (by repeat (first | assumption | exact mup_s _ _ _ | rw [mup_n _ _ (by omega)])) rfl ?_
        refine mj_icmp_ge 91 dX4_driverPrefers_84 (by decide) (fun c_84 => ?_) (fun c_84 => ?_)
        · have z : ¬ r < q := fun z => nI_ge z (by omega) c_84
          refine mj_iconst (v := 0) dX4_driverPrefers_91 rfl ?_
          exact mj_zret dX4_driverPrefers_92 rfl (by first | exact Or.inl rfl | exact Or.inr rfl) (Nat.le_of_ble_eq_true rfl) (Nat.le_of_ble_eq_true rfl) ⟨(by unfold p_dpref; simp [bI, *]), rfl, rfl⟩
        · have z : r < q := Nat.lt_of_not_le fun z => c_84 (nI_le z (by omega))
          refine mj_iconst (v := 1) dX4_driverPrefers_87 rfl ?_
          refine mj_goto 92 dX4_driverPrefers_88 (by decide) ?_
          exact mj_zret dX4_driverPrefers_92 rfl (by first | exact Or.inl rfl | exact Or.inr rfl) (Nat.le_of_ble_eq_true rfl) (Nat.le_of_ble_eq_true rfl) ⟨(by unfold p_dpref; simp [bI, *]), rfl, rfl⟩
  · refine mj_iload 1 dX4_driverPrefers_39 rfl ?_
    refine mj_iload 0 dX4_driverPrefers_41 rfl ?_
    refine mj_icmp_ge 50 dX4_driverPrefers_43 (by decide) (fun c_43 => ?_) (fun c_43 => ?_)
    · refine mj_iconst (v := 0) dX4_driverPrefers_50 rfl ?_
      exact mj_zret dX4_driverPrefers_51 rfl (by first | exact Or.inl rfl | exact Or.inr rfl) (Nat.le_of_ble_eq_true rfl) (Nat.le_of_ble_eq_true rfl) ⟨(by unfold p_dpref; simp [bI, *]), rfl, rfl⟩
    · refine mj_iconst (v := 1) dX4_driverPrefers_46 rfl ?_
      refine mj_goto 51 dX4_driverPrefers_47 (by decide) ?_
      exact mj_zret dX4_driverPrefers_51 rfl (by first | exact Or.inl rfl | exact Or.inr rfl) (Nat.le_of_ble_eq_true rfl) (Nat.le_of_ble_eq_true rfl) ⟨(by unfold p_dpref; simp [bI, *]), rfl, rfl⟩
set_option maxRecDepth 100000 in
set_option maxHeartbeats 4000000 in
theorem cn_X4_isCandidate {K : KX} {n : Nat} {h : MH} {p a d r : Nat} {B : BS} {S : Nat → Nat → Int32} (x : Pf h p S) (b : Bd h a B) (hd : d < 8) (hr : r < 20) : Con K mX4_isCandidate [.ref p, .ref (a + 3 + 6 * d), .ref (a + 51 + r)] 0 0 n h (Ret (some (.int (bI (p_cand B S d r)))) n h) := by
  have x9 := x
  have b9 := b
  have b5 := b.2.2.2.2.2.1
  have b6 := b.2.2.2.2.2.2
  obtain ⟨x0, ⟨fs, x1, f1⟩, x2⟩ := x
  have b0 := b.1
  have bx := b.2.2.2.2.1 r hr
  obtain ⟨be, bt⟩ := b.2.2.2.1 d hd
  refine Con.of (by decide +kernel) (Nat.le_of_ble_eq_true rfl) ?_
  refine mj_aload_n 2 dX4_isCandidate_0 rfl ?_
  refine mj_getf dX4_isCandidate_1 fgX4_85 (by repeat (first | assumption | exact mup_s _ _ _ | rw [mup_n _ _ (by omega)])) rfl ?_
  refine mj_if_eq 15 dX4_isCandidate_4 (by decide) (fun c_4 => ?_) (fun c_4 => ?_)
  · refine mj_aload_n 0 dX4_isCandidate_15 rfl ?_
    refine mj_aload_n 1 dX4_isCandidate_16 rfl ?_
    refine mj_aload_n 2 dX4_isCandidate_17 rfl ?_
    refine mj_cV1 [_, _] (RX4, TX4, 1) dX4_isCandidate_18 cwX4_areFitting lkX4_62 x0 rfl rfl rfl rfl (cn_X4_areFitting x9 b9 hd hr) ⟨Nat.le_of_ble_eq_true rfl, Nat.le_of_ble_eq_true rfl, Nat.le_of_ble_eq_true rfl, Nat.le_of_ble_eq_true rfl, Nat.le_of_ble_eq_true rfl⟩ (fun h' e' => ?_)
    subst e'
    refine mj_if_eq 28 dX4_isCandidate_21 (by decide) (fun c_21 => ?_) (fun c_21 => ?_)
    · have z := bI_0.mp c_21
      refine mj_iconst (v := 0) dX4_isCandidate_28 rfl ?_
      exact mj_zret dX4_isCandidate_29 rfl (by first | exact Or.inl rfl | exact Or.inr rfl) (Nat.le_of_ble_eq_true rfl) (Nat.le_of_ble_eq_true rfl) ⟨(by unfold p_cand; simp [bI, *]), rfl, rfl⟩
    · have z := bI_n0.mp c_21
      refine mj_iconst (v := 1) dX4_isCandidate_24 rfl ?_
      refine mj_goto 29 dX4_isCandidate_25 (by decide) ?_
      exact mj_zret dX4_isCandidate_29 rfl (by first | exact Or.inl rfl | exact Or.inr rfl) (Nat.le_of_ble_eq_true rfl) (Nat.le_of_ble_eq_true rfl) ⟨(by unfold p_cand; simp [bI, *]), rfl, rfl⟩
  · refine mj_aload_n 2 dX4_isCandidate_7 rfl ?_
    refine mj_getf dX4_isCandidate_8 fgX4_85 (by repeat (first | assumption | exact mup_s _ _ _ | rw [mup_n _ _ (by omega)])) rfl ?_
    refine mj_iconst (v := 1) dX4_isCandidate_11 rfl ?_
    refine mj_icmp_ne 28 dX4_isCandidate_12 (by decide) (fun c_12 => ?_) (fun c_12 => ?_)
    · refine mj_iconst (v := 0) dX4_isCandidate_28 rfl ?_
      exact mj_zret dX4_isCandidate_29 rfl (by first | exact Or.inl rfl | exact Or.inr rfl) (Nat.le_of_ble_eq_true rfl) (Nat.le_of_ble_eq_true rfl) ⟨(by unfold p_cand; simp [bI, *]), rfl, rfl⟩
    · refine mj_aload_n 0 dX4_isCandidate_15 rfl ?_
      refine mj_aload_n 1 dX4_isCandidate_16 rfl ?_
      refine mj_aload_n 2 dX4_isCandidate_17 rfl ?_
      refine mj_cV1 [_, _] (RX4, TX4, 1) dX4_isCandidate_18 cwX4_areFitting lkX4_62 x0 rfl rfl rfl rfl (cn_X4_areFitting x9 b9 hd hr) ⟨Nat.le_of_ble_eq_true rfl, Nat.le_of_ble_eq_true rfl, Nat.le_of_ble_eq_true rfl, Nat.le_of_ble_eq_true rfl, Nat.le_of_ble_eq_true rfl⟩ (fun h' e' => ?_)
      subst e'
      refine mj_if_eq 28 dX4_isCandidate_21 (by decide) (fun c_21 => ?_) (fun c_21 => ?_)
      · have z := bI_0.mp c_21
        refine mj_iconst (v := 0) dX4_isCandidate_28 rfl ?_
        exact mj_zret dX4_isCandidate_29 rfl (by first | exact Or.inl rfl | exact Or.inr rfl) (Nat.le_of_ble_eq_true rfl) (Nat.le_of_ble_eq_true rfl) ⟨(by unfold p_cand; simp [bI, *]), rfl, rfl⟩
      · have z := bI_n0.mp c_21
        refine mj_iconst (v := 1) dX4_isCandidate_24 rfl ?_
        refine mj_goto 29 dX4_isCandidate_25 (by decide) ?_
        exact mj_zret dX4_isCandidate_29 rfl (by first | exact Or.inl rfl | exact Or.inr rfl) (Nat.le_of_ble_eq_true rfl) (Nat.le_of_ble_eq_true rfl) ⟨(by unfold p_cand; simp [bI, *]), rfl, rfl⟩
set_option maxRecDepth 100000 in
set_option maxHeartbeats 4000000 in
theorem cn_X4_driversBefore {K : KX} {n : Nat} {h : MH} {p a d r : Nat} {B : BS} {S : Nat → Nat → Int32} (x : Pf h p S) (b : Bd h a B) (hd : d < 8) (hr : r < 20) : Con K mX4_driversBefore [.ref p, .ref a, .ref (a + 51 + r), .ref (a + 3 + 6 * d)] 0 0 n h (Ret (some (.int (nI (p_dbef B S r d)))) n h) := by
  have x9 := x
  have b9 := b
  have b5 := b.2.2.2.2.2.1
  have b6 := b.2.2.2.2.2.2
  obtain ⟨x0, ⟨fs, x1, f1⟩, x2⟩ := x
  have b0 := b.1
  refine Con.of (by decide +kernel) (Nat.le_of_ble_eq_true rfl) ?_
  have loop : ∀ (f : Nat) (k c : Nat), k + f = bnd B → c = i_count (fun e => p_fit S e r && p_rpref B S r e d) k → GG (K, mX4_driversBefore, 0, 0, Ret (some (.int (nI (p_dbef B S r d)))) n h) 0 0 6 [(5, .int (nI k)), (4, .int (nI c)), (0, .ref p), (1, .ref a), (2, .ref (a + 51 + r)), (3, .ref (a + 3 + 6 * d))] [] n h := by
    intro f
    induction f with
    | zero =>
      intro k c hk hc
      refine mj_iload 0 dX4_driversBefore_6 rfl ?_
      refine mj_aload_n 3 dX4_driversBefore_8 rfl ?_
      refine mj_getf dX4_driversBefore_9 fgX4_16 (by repeat (first | assumption | exact mup_s _ _ _ | rw [mup_n _ _ (by omega)])) rfl ?_
      refine mj_icmp_ge 53 dX4_driversBefore_12 (by decide) (fun c_12 => ?_) (fun c_12 => ?_)
      · refine mj_iload 1 dX4_driversBefore_53 rfl ?_
        exact mj_iret dX4_driversBefore_55 rfl (Nat.le_of_ble_eq_true rfl) (Nat.le_of_ble_eq_true rfl) ⟨(by unfold p_dbef; rw [hc, show bnd B = k by omega]), rfl, rfl⟩
      · exact absurd (nI_le (by omega) (by omega)) c_12
    | succ f ih =>
      intro k c hk hc
      have q2 := i_count_le (fun e => p_fit S e r && p_rpref B S r e d) k
      refine mj_iload 0 dX4_driversBefore_6 rfl ?_
      refine mj_aload_n 3 dX4_driversBefore_8 rfl ?_
      refine mj_getf dX4_driversBefore_9 fgX4_16 (by repeat (first | assumption | exact mup_s _ _ _ | rw [mup_n _ _ (by omega)])) rfl ?_
      refine mj_icmp_ge 53 dX4_driversBefore_12 (by decide) (fun c_12 => ?_) (fun c_12 => ?_)
      · exact absurd c_12 (nI_ge (by omega) (by omega))
      · refine mj_aload_n 3 dX4_driversBefore_15 rfl ?_
        refine mj_iload 0 dX4_driversBefore_16 rfl ?_
        refine mj_cV1 [_] (RX0, TX0, 5) dX4_driversBefore_18 cwX0_driver lkX4_22 (by repeat (first | assumption | exact mup_s _ _ _ | rw [mup_n _ _ (by omega)])) rfl rfl rfl rfl (cn_X0_driver b9 (j := k) rfl (by omega)) ⟨Nat.le_of_ble_eq_true rfl, Nat.le_of_ble_eq_true rfl, Nat.le_of_ble_eq_true rfl, Nat.le_of_ble_eq_true rfl, Nat.le_of_ble_eq_true rfl⟩ (fun h' e' => ?_)
        subst e'
        refine mj_astore (ls' := [(6, _), (5, _), (4, _), (0, _), (1, _), (2, _), (3, _)]) dX4_driversBefore_21 (Nat.le_of_ble_eq_true rfl) rfl ?_
        refine mj_aload_n 3 dX4_driversBefore_23 rfl ?_
        refine mj_aload 0 dX4_driversBefore_24 rfl ?_
        refine mj_aload_n 5 dX4_driversBefore_26 rfl ?_
        refine mj_cV1 [_, _] (RX4, TX4, 1) dX4_driversBefore_27 cwX4_areFitting lkX4_62 x0 rfl rfl rfl rfl (cn_X4_areFitting x9 b9 (show k < 8 by omega) hr) ⟨Nat.le_of_ble_eq_true rfl, Nat.le_of_ble_eq_true rfl, Nat.le_of_ble_eq_true rfl, Nat.le_of_ble_eq_true rfl, Nat.le_of_ble_eq_true rfl⟩ (fun h' e' => ?_)
        subst e'
        refine mj_if_eq 47 dX4_driversBefore_30 (by decide) (fun c_30 => ?_) (fun c_30 => ?_)
        · have z1 := bI_0.mp c_30
          refine mj_iinc (ls' := [(5, _), (6, _), (4, _), (0, _), (1, _), (2, _), (3, _)]) 1 dX4_driversBefore_47 rfl (nI_s _) (Nat.le_of_ble_eq_true rfl) rfl ?_
          refine mj_goto 6 dX4_driversBefore_50 (by decide) ?_
          exact mj_ls [0, 2, 3, 4, 5, 6] rfl (ih (k + 1) c (by omega) (by rw [hc]; simp [i_count, *]))
        · have z1 := bI_n0.mp c_30
          refine mj_aload_n 3 dX4_driversBefore_33 rfl ?_
          refine mj_aload_n 5 dX4_driversBefore_34 rfl ?_
          refine mj_aload 0 dX4_driversBefore_35 rfl ?_
          refine mj_aload_n 6 dX4_driversBefore_37 rfl ?_
          refine mj_cV1 [_, _, _] (RX4, TX4, 1) dX4_driversBefore_38 cwX4_riderPrefers lkX4_70 x0 rfl rfl rfl rfl (cn_X4_riderPrefers x9 b9 (show k < 8 by omega) hd hr) ⟨Nat.le_of_ble_eq_true rfl, Nat.le_of_ble_eq_true rfl, Nat.le_of_ble_eq_true rfl, Nat.le_of_ble_eq_true rfl, Nat.le_of_ble_eq_true rfl⟩ (fun h' e' => ?_)
          subst e'
          refine mj_if_eq 47 dX4_driversBefore_41 (by decide) (fun c_41 => ?_) (fun c_41 => ?_)
          · have z2 := bI_0.mp c_41
            refine mj_iinc (ls' := [(5, _), (6, _), (4, _), (0, _), (1, _), (2, _), (3, _)]) 1 dX4_driversBefore_47 rfl (nI_s _) (Nat.le_of_ble_eq_true rfl) rfl ?_
            refine mj_goto 6 dX4_driversBefore_50 (by decide) ?_
            exact mj_ls [0, 2, 3, 4, 5, 6] rfl (ih (k + 1) c (by omega) (by rw [hc]; simp [i_count, *]))
          · have z2 := bI_n0.mp c_41
            refine mj_iinc (ls' := [(4, _), (6, _), (5, _), (0, _), (1, _), (2, _), (3, _)]) 2 dX4_driversBefore_44 rfl (nI_s _) (Nat.le_of_ble_eq_true rfl) rfl ?_
            refine mj_iinc (ls' := [(5, _), (4, _), (6, _), (0, _), (1, _), (2, _), (3, _)]) 2 dX4_driversBefore_47 rfl (nI_s _) (Nat.le_of_ble_eq_true rfl) rfl ?_
            refine mj_goto 6 dX4_driversBefore_50 (by decide) ?_
            exact mj_ls [0, 1, 3, 4, 5, 6] rfl (ih (k + 1) (c + 1) (by omega) (by rw [hc]; simp [i_count, *]))
  refine mj_iconst (v := 0) dX4_driversBefore_0 rfl ?_
  refine mj_istore (ls' := [(4, _), (0, _), (1, _), (2, _), (3, _)]) dX4_driversBefore_1 (Nat.le_of_ble_eq_true rfl) rfl ?_
  refine mj_iconst (v := 0) dX4_driversBefore_3 rfl ?_
  refine mj_istore (ls' := [(5, _), (4, _), (0, _), (1, _), (2, _), (3, _)]) dX4_driversBefore_4 (Nat.le_of_ble_eq_true rfl) rfl ?_
  exact mj_ls [0, 1, 2, 3, 4, 5] rfl (loop (bnd B) 0 0 (by omega) rfl)
set_option maxRecDepth 100000 in
set_option maxHeartbeats 4000000 in
theorem cn_X4_ridersBefore {K : KX} {n : Nat} {h : MH} {p a d r : Nat} {B : BS} {S : Nat → Nat → Int32} (x : Pf h p S) (b : Bd h a B) (hd : d < 8) (hr : r < 20) : Con K mX4_ridersBefore [.ref p, .ref a, .ref (a + 3 + 6 * d), .ref (a + 51 + r)] 0 0 n h (Ret (some (.int (nI (p_rbef B S d r)))) n h) := by
  have x9 := x
  have b9 := b
  have b5 := b.2.2.2.2.2.1
  have b6 := b.2.2.2.2.2.2
  obtain ⟨x0, ⟨fs, x1, f1⟩, x2⟩ := x
  have b0 := b.1
  refine Con.of (by decide +kernel) (Nat.le_of_ble_eq_true rfl) ?_
  have loop : ∀ (f : Nat) (k c : Nat), k + f = bnr B → c = i_count (fun q => p_cand B S d q && p_dpref B S d q r) k → GG (K, mX4_ridersBefore, 0, 0, Ret (some (.int (nI (p_rbef B S d r)))) n h) 0 0 6 [(5, .int (nI k)), (4, .int (nI c)), (0, .ref p), (1, .ref a), (2, .ref (a + 3 + 6 * d)), (3, .ref (a + 51 + r))] [] n h := by
    intro f
    induction f with
    | zero =>
      intro k c hk hc
      refine mj_iload 0 dX4_ridersBefore_6 rfl ?_
      refine mj_aload_n 3 dX4_ridersBefore_8 rfl ?_
      refine mj_getf dX4_ridersBefore_9 fgX4_26 (by repeat (first | assumption | exact mup_s _ _ _ | rw [mup_n _ _ (by omega)])) rfl ?_
      refine mj_icmp_ge 53 dX4_ridersBefore_12 (by decide) (fun c_12 => ?_) (fun c_12 => ?_)
      · refine mj_iload 1 dX4_ridersBefore_53 rfl ?_
        exact mj_iret dX4_ridersBefore_55 rfl (Nat.le_of_ble_eq_true rfl) (Nat.le_of_ble_eq_true rfl) ⟨(by unfold p_rbef; rw [hc, show bnr B = k by omega]), rfl, rfl⟩
      · exact absurd (nI_le (by omega) (by omega)) c_12
    | succ f ih =>
      intro k c hk hc
      have q2 := i_count_le (fun q => p_cand B S d q && p_dpref B S d q r) k
      refine mj_iload 0 dX4_ridersBefore_6 rfl ?_
      refine mj_aload_n 3 dX4_ridersBefore_8 rfl ?_
      refine mj_getf dX4_ridersBefore_9 fgX4_26 (by repeat (first | assumption | exact mup_s _ _ _ | rw [mup_n _ _ (by omega)])) rfl ?_
      refine mj_icmp_ge 53 dX4_ridersBefore_12 (by decide) (fun c_12 => ?_) (fun c_12 => ?_)
      · exact absurd c_12 (nI_ge (by omega) (by omega))
      · refine mj_aload_n 3 dX4_ridersBefore_15 rfl ?_
        refine mj_iload 0 dX4_ridersBefore_16 rfl ?_
        refine mj_cV1 [_] (RX0, TX0, 5) dX4_ridersBefore_18 cwX0_rider lkX4_35 (by repeat (first | assumption | exact mup_s _ _ _ | rw [mup_n _ _ (by omega)])) rfl rfl rfl rfl (cn_X0_rider b9 (j := k) rfl (by omega)) ⟨Nat.le_of_ble_eq_true rfl, Nat.le_of_ble_eq_true rfl, Nat.le_of_ble_eq_true rfl, Nat.le_of_ble_eq_true rfl, Nat.le_of_ble_eq_true rfl⟩ (fun h' e' => ?_)
        subst e'
        refine mj_astore (ls' := [(6, _), (5, _), (4, _), (0, _), (1, _), (2, _), (3, _)]) dX4_ridersBefore_21 (Nat.le_of_ble_eq_true rfl) rfl ?_
        refine mj_aload_n 3 dX4_ridersBefore_23 rfl ?_
        refine mj_aload_n 5 dX4_ridersBefore_24 rfl ?_
        refine mj_aload 0 dX4_ridersBefore_25 rfl ?_
        refine mj_cV1 [_, _] (RX4, TX4, 1) dX4_ridersBefore_27 cwX4_isCandidate lkX4_74 x0 rfl rfl rfl rfl (cn_X4_isCandidate x9 b9 hd (show k < 20 by omega)) ⟨Nat.le_of_ble_eq_true rfl, Nat.le_of_ble_eq_true rfl, Nat.le_of_ble_eq_true rfl, Nat.le_of_ble_eq_true rfl, Nat.le_of_ble_eq_true rfl⟩ (fun h' e' => ?_)
        subst e'
        refine mj_if_eq 47 dX4_ridersBefore_30 (by decide) (fun c_30 => ?_) (fun c_30 => ?_)
        · have z1 := bI_0.mp c_30
          refine mj_iinc (ls' := [(5, _), (6, _), (4, _), (0, _), (1, _), (2, _), (3, _)]) 1 dX4_ridersBefore_47 rfl (nI_s _) (Nat.le_of_ble_eq_true rfl) rfl ?_
          refine mj_goto 6 dX4_ridersBefore_50 (by decide) ?_
          exact mj_ls [0, 2, 3, 4, 5, 6] rfl (ih (k + 1) c (by omega) (by rw [hc]; simp [i_count, *]))
        · have z1 := bI_n0.mp c_30
          refine mj_aload_n 3 dX4_ridersBefore_33 rfl ?_
          refine mj_aload_n 5 dX4_ridersBefore_34 rfl ?_
          refine mj_aload 0 dX4_ridersBefore_35 rfl ?_
          refine mj_aload_n 6 dX4_ridersBefore_37 rfl ?_
          refine mj_cV1 [_, _, _] (RX4, TX4, 1) dX4_ridersBefore_38 cwX4_driverPrefers lkX4_81 x0 rfl rfl rfl rfl (cn_X4_driverPrefers x9 b9 hd (show k < 20 by omega) hr) ⟨Nat.le_of_ble_eq_true rfl, Nat.le_of_ble_eq_true rfl, Nat.le_of_ble_eq_true rfl, Nat.le_of_ble_eq_true rfl, Nat.le_of_ble_eq_true rfl⟩ (fun h' e' => ?_)
          subst e'
          refine mj_if_eq 47 dX4_ridersBefore_41 (by decide) (fun c_41 => ?_) (fun c_41 => ?_)
          · have z2 := bI_0.mp c_41
            refine mj_iinc (ls' := [(5, _), (6, _), (4, _), (0, _), (1, _), (2, _), (3, _)]) 1 dX4_ridersBefore_47 rfl (nI_s _) (Nat.le_of_ble_eq_true rfl) rfl ?_
            refine mj_goto 6 dX4_ridersBefore_50 (by decide) ?_
            exact mj_ls [0, 2, 3, 4, 5, 6] rfl (ih (k + 1) c (by omega) (by rw [hc]; simp [i_count, *]))
          · have z2 := bI_n0.mp c_41
            refine mj_iinc (ls' := [(4, _), (6, _), (5, _), (0, _), (1, _), (2, _), (3, _)]) 2 dX4_ridersBefore_44 rfl (nI_s _) (Nat.le_of_ble_eq_true rfl) rfl ?_
            refine mj_iinc (ls' := [(5, _), (4, _), (6, _), (0, _), (1, _), (2, _), (3, _)]) 2 dX4_ridersBefore_47 rfl (nI_s _) (Nat.le_of_ble_eq_true rfl) rfl ?_
            refine mj_goto 6 dX4_ridersBefore_50 (by decide) ?_
            exact mj_ls [0, 1, 3, 4, 5, 6] rfl (ih (k + 1) (c + 1) (by omega) (by rw [hc]; simp [i_count, *]))
  refine mj_iconst (v := 0) dX4_ridersBefore_0 rfl ?_
  refine mj_istore (ls' := [(4, _), (0, _), (1, _), (2, _), (3, _)]) dX4_ridersBefore_1 (Nat.le_of_ble_eq_true rfl) rfl ?_
  refine mj_iconst (v := 0) dX4_ridersBefore_3 rfl ?_
  refine mj_istore (ls' := [(5, _), (4, _), (0, _), (1, _), (2, _), (3, _)]) dX4_ridersBefore_4 (Nat.le_of_ble_eq_true rfl) rfl ?_
  exact mj_ls [0, 1, 2, 3, 4, 5] rfl (loop (bnr B) 0 0 (by omega) rfl)
set_option maxRecDepth 100000 in
set_option maxHeartbeats 4000000 in
theorem cn_X4_driverAt {K : KX} {n : Nat} {h : MH} {p a d r : Nat} {B : BS} {S : Nat → Nat → Int32} (x : Pf h p S) (b : Bd h a B) {pl : Int32} (hr : r < 20) : Con K mX4_driverAt [.ref p, .ref a, .ref (a + 51 + r), .int pl] 0 0 n h (Ret (some (.int (p_dat B S r pl))) n h) := by
  have x9 := x
  have b9 := b
  have b5 := b.2.2.2.2.2.1
  have b6 := b.2.2.2.2.2.2
  obtain ⟨x0, ⟨fs, x1, f1⟩, x2⟩ := x
  have b0 := b.1
  refine Con.of (by decide +kernel) (Nat.le_of_ble_eq_true rfl) ?_
  have loop : ∀ (f : Nat) (k : Nat), k + f = bnd B → p_dat B S r pl = i_first (fun d => p_fit S d r && decide (nI (p_dbef B S r d) = pl)) f k → GG (K, mX4_driverAt, 0, 0, Ret (some (.int (p_dat B S r pl))) n h) 0 0 3 [(4, .int (nI k)), (0, .ref p), (1, .ref a), (2, .ref (a + 51 + r)), (3, .int pl)] [] n h := by
    intro f
    induction f with
    | zero =>
      intro k hk hc
      refine mj_iload 0 dX4_driverAt_3 rfl ?_
      refine mj_aload_n 2 dX4_driverAt_5 rfl ?_
      refine mj_getf dX4_driverAt_6 fgX4_16 (by repeat (first | assumption | exact mup_s _ _ _ | rw [mup_n _ _ (by omega)])) rfl ?_
      refine mj_icmp_ge 51 dX4_driverAt_9 (by decide) (fun c_9 => ?_) (fun c_9 => ?_)
      · refine mj_iconst (v := (-1)) dX4_driverAt_51 rfl ?_
        exact mj_iret dX4_driverAt_52 rfl (Nat.le_of_ble_eq_true rfl) (Nat.le_of_ble_eq_true rfl) ⟨(by rw [hc]; rfl), rfl, rfl⟩
      · exact absurd (nI_le (by omega) (by omega)) c_9
    | succ f ih =>
      intro k hk hc
      refine mj_iload 0 dX4_driverAt_3 rfl ?_
      refine mj_aload_n 2 dX4_driverAt_5 rfl ?_
      refine mj_getf dX4_driverAt_6 fgX4_16 (by repeat (first | assumption | exact mup_s _ _ _ | rw [mup_n _ _ (by omega)])) rfl ?_
      refine mj_icmp_ge 51 dX4_driverAt_9 (by decide) (fun c_9 => ?_) (fun c_9 => ?_)
      · exact absurd c_9 (nI_ge (by omega) (by omega))
      · refine mj_aload_n 2 dX4_driverAt_12 rfl ?_
        refine mj_iload 0 dX4_driverAt_13 rfl ?_
        refine mj_cV1 [_] (RX0, TX0, 5) dX4_driverAt_15 cwX0_driver lkX4_22 (by repeat (first | assumption | exact mup_s _ _ _ | rw [mup_n _ _ (by omega)])) rfl rfl rfl rfl (cn_X0_driver b9 (j := k) rfl (by omega)) ⟨Nat.le_of_ble_eq_true rfl, Nat.le_of_ble_eq_true rfl, Nat.le_of_ble_eq_true rfl, Nat.le_of_ble_eq_true rfl, Nat.le_of_ble_eq_true rfl⟩ (fun h' e' => ?_)
        subst e'
        refine mj_astore (ls' := [(5, _), (4, _), (0, _), (1, _), (2, _), (3, _)]) dX4_driverAt_18 (Nat.le_of_ble_eq_true rfl) rfl ?_
        refine mj_aload_n 2 dX4_driverAt_20 rfl ?_
        refine mj_aload 0 dX4_driverAt_21 rfl ?_
        refine mj_aload_n 4 dX4_driverAt_23 rfl ?_
        refine mj_cV1 [_, _] (RX4, TX4, 1) dX4_driverAt_24 cwX4_areFitting lkX4_62 x0 rfl rfl rfl rfl (cn_X4_areFitting x9 b9 (show k < 8 by omega) hr) ⟨Nat.le_of_ble_eq_true rfl, Nat.le_of_ble_eq_true rfl, Nat.le_of_ble_eq_true rfl, Nat.le_of_ble_eq_true rfl, Nat.le_of_ble_eq_true rfl⟩ (fun h' e' => ?_)
        subst e'
        refine mj_if_eq 45 dX4_driverAt_27 (by decide) (fun c_27 => ?_) (fun c_27 => ?_)
        · have z1 := bI_0.mp c_27
          refine mj_iinc (ls' := [(4, _), (5, _), (0, _), (1, _), (2, _), (3, _)]) 1 dX4_driverAt_45 rfl (nI_s _) (Nat.le_of_ble_eq_true rfl) rfl ?_
          refine mj_goto 3 dX4_driverAt_48 (by decide) ?_
          exact mj_ls [0, 2, 3, 4, 5] rfl (ih (k + 1) (by omega) (by rw [hc]; simp [i_first, *]))
        · have z1 := bI_n0.mp c_27
          refine mj_aload_n 2 dX4_driverAt_30 rfl ?_
          refine mj_aload_n 3 dX4_driverAt_31 rfl ?_
          refine mj_aload_n 4 dX4_driverAt_32 rfl ?_
          refine mj_aload 0 dX4_driverAt_33 rfl ?_
          refine mj_cV1 [_, _, _] (RX4, TX4, 1) dX4_driverAt_35 cwX4_driversBefore lkX4_66 x0 rfl rfl rfl rfl (cn_X4_driversBefore x9 b9 (show k < 8 by omega) hr) ⟨Nat.le_of_ble_eq_true rfl, Nat.le_of_ble_eq_true rfl, Nat.le_of_ble_eq_true rfl, Nat.le_of_ble_eq_true rfl, Nat.le_of_ble_eq_true rfl⟩ (fun h' e' => ?_)
          subst e'
          refine mj_iload_n 5 dX4_driverAt_38 rfl ?_
          refine mj_icmp_ne 45 dX4_driverAt_39 (by decide) (fun c_39 => ?_) (fun c_39 => ?_)
          · refine mj_iinc (ls' := [(4, _), (5, _), (0, _), (1, _), (2, _), (3, _)]) 1 dX4_driverAt_45 rfl (nI_s _) (Nat.le_of_ble_eq_true rfl) rfl ?_
            refine mj_goto 3 dX4_driverAt_48 (by decide) ?_
            exact mj_ls [0, 2, 3, 4, 5] rfl (ih (k + 1) (by omega) (by rw [hc]; simp [i_first, *]))
          · refine mj_iload 1 dX4_driverAt_42 rfl ?_
            exact mj_iret dX4_driverAt_44 rfl (Nat.le_of_ble_eq_true rfl) (Nat.le_of_ble_eq_true rfl) ⟨(by rw [hc]; simp [i_first, *]), rfl, rfl⟩
  refine mj_iconst (v := 0) dX4_driverAt_0 rfl ?_
  refine mj_istore (ls' := [(4, _), (0, _), (1, _), (2, _), (3, _)]) dX4_driverAt_1 (Nat.le_of_ble_eq_true rfl) rfl ?_
  exact mj_ls [0, 1, 2, 3, 4] rfl (loop (bnd B) 0 (by omega) rfl)
set_option maxRecDepth 100000 in
set_option maxHeartbeats 4000000 in
theorem cn_X4_riderAt {K : KX} {n : Nat} {h : MH} {p a d r : Nat} {B : BS} {S : Nat → Nat → Int32} (x : Pf h p S) (b : Bd h a B) {pl : Int32} (hd : d < 8) : Con K mX4_riderAt [.ref p, .ref a, .ref (a + 3 + 6 * d), .int pl] 0 0 n h (Ret (some (.int (p_rat B S d pl))) n h) := by
  have x9 := x
  have b9 := b
  have b5 := b.2.2.2.2.2.1
  have b6 := b.2.2.2.2.2.2
  obtain ⟨x0, ⟨fs, x1, f1⟩, x2⟩ := x
  have b0 := b.1
  refine Con.of (by decide +kernel) (Nat.le_of_ble_eq_true rfl) ?_
  have loop : ∀ (f : Nat) (k : Nat), k + f = bnr B → p_rat B S d pl = i_first (fun r => p_cand B S d r && decide (nI (p_rbef B S d r) = pl)) f k → GG (K, mX4_riderAt, 0, 0, Ret (some (.int (p_rat B S d pl))) n h) 0 0 3 [(4, .int (nI k)), (0, .ref p), (1, .ref a), (2, .ref (a + 3 + 6 * d)), (3, .int pl)] [] n h := by
    intro f
    induction f with
    | zero =>
      intro k hk hc
      refine mj_iload 0 dX4_riderAt_3 rfl ?_
      refine mj_aload_n 2 dX4_riderAt_5 rfl ?_
      refine mj_getf dX4_riderAt_6 fgX4_26 (by repeat (first | assumption | exact mup_s _ _ _ | rw [mup_n _ _ (by omega)])) rfl ?_
      refine mj_icmp_ge 51 dX4_riderAt_9 (by decide) (fun c_9 => ?_) (fun c_9 => ?_)
      · refine mj_iconst (v := (-1)) dX4_riderAt_51 rfl ?_
        exact mj_iret dX4_riderAt_52 rfl (Nat.le_of_ble_eq_true rfl) (Nat.le_of_ble_eq_true rfl) ⟨(by rw [hc]; rfl), rfl, rfl⟩
      · exact absurd (nI_le (by omega) (by omega)) c_9
    | succ f ih =>
      intro k hk hc
      refine mj_iload 0 dX4_riderAt_3 rfl ?_
      refine mj_aload_n 2 dX4_riderAt_5 rfl ?_
      refine mj_getf dX4_riderAt_6 fgX4_26 (by repeat (first | assumption | exact mup_s _ _ _ | rw [mup_n _ _ (by omega)])) rfl ?_
      refine mj_icmp_ge 51 dX4_riderAt_9 (by decide) (fun c_9 => ?_) (fun c_9 => ?_)
      · exact absurd c_9 (nI_ge (by omega) (by omega))
      · refine mj_aload_n 2 dX4_riderAt_12 rfl ?_
        refine mj_iload 0 dX4_riderAt_13 rfl ?_
        refine mj_cV1 [_] (RX0, TX0, 5) dX4_riderAt_15 cwX0_rider lkX4_35 (by repeat (first | assumption | exact mup_s _ _ _ | rw [mup_n _ _ (by omega)])) rfl rfl rfl rfl (cn_X0_rider b9 (j := k) rfl (by omega)) ⟨Nat.le_of_ble_eq_true rfl, Nat.le_of_ble_eq_true rfl, Nat.le_of_ble_eq_true rfl, Nat.le_of_ble_eq_true rfl, Nat.le_of_ble_eq_true rfl⟩ (fun h' e' => ?_)
        subst e'
        refine mj_astore (ls' := [(5, _), (4, _), (0, _), (1, _), (2, _), (3, _)]) dX4_riderAt_18 (Nat.le_of_ble_eq_true rfl) rfl ?_
        refine mj_aload_n 2 dX4_riderAt_20 rfl ?_
        refine mj_aload_n 4 dX4_riderAt_21 rfl ?_
        refine mj_aload 0 dX4_riderAt_22 rfl ?_
        refine mj_cV1 [_, _] (RX4, TX4, 1) dX4_riderAt_24 cwX4_isCandidate lkX4_74 x0 rfl rfl rfl rfl (cn_X4_isCandidate x9 b9 hd (show k < 20 by omega)) ⟨Nat.le_of_ble_eq_true rfl, Nat.le_of_ble_eq_true rfl, Nat.le_of_ble_eq_true rfl, Nat.le_of_ble_eq_true rfl, Nat.le_of_ble_eq_true rfl⟩ (fun h' e' => ?_)
        subst e'
        refine mj_if_eq 45 dX4_riderAt_27 (by decide) (fun c_27 => ?_) (fun c_27 => ?_)
        · have z1 := bI_0.mp c_27
          refine mj_iinc (ls' := [(4, _), (5, _), (0, _), (1, _), (2, _), (3, _)]) 1 dX4_riderAt_45 rfl (nI_s _) (Nat.le_of_ble_eq_true rfl) rfl ?_
          refine mj_goto 3 dX4_riderAt_48 (by decide) ?_
          exact mj_ls [0, 2, 3, 4, 5] rfl (ih (k + 1) (by omega) (by rw [hc]; simp [i_first, *]))
        · have z1 := bI_n0.mp c_27
          refine mj_aload_n 2 dX4_riderAt_30 rfl ?_
          refine mj_aload_n 3 dX4_riderAt_31 rfl ?_
          refine mj_aload_n 4 dX4_riderAt_32 rfl ?_
          refine mj_aload 0 dX4_riderAt_33 rfl ?_
          refine mj_cV1 [_, _, _] (RX4, TX4, 1) dX4_riderAt_35 cwX4_ridersBefore lkX4_77 x0 rfl rfl rfl rfl (cn_X4_ridersBefore x9 b9 hd (show k < 20 by omega)) ⟨Nat.le_of_ble_eq_true rfl, Nat.le_of_ble_eq_true rfl, Nat.le_of_ble_eq_true rfl, Nat.le_of_ble_eq_true rfl, Nat.le_of_ble_eq_true rfl⟩ (fun h' e' => ?_)
          subst e'
          refine mj_iload_n 5 dX4_riderAt_38 rfl ?_
          refine mj_icmp_ne 45 dX4_riderAt_39 (by decide) (fun c_39 => ?_) (fun c_39 => ?_)
          · refine mj_iinc (ls' := [(4, _), (5, _), (0, _), (1, _), (2, _), (3, _)]) 1 dX4_riderAt_45 rfl (nI_s _) (Nat.le_of_ble_eq_true rfl) rfl ?_
            refine mj_goto 3 dX4_riderAt_48 (by decide) ?_
            exact mj_ls [0, 2, 3, 4, 5] rfl (ih (k + 1) (by omega) (by rw [hc]; simp [i_first, *]))
          · refine mj_iload 1 dX4_riderAt_42 rfl ?_
            exact mj_iret dX4_riderAt_44 rfl (Nat.le_of_ble_eq_true rfl) (Nat.le_of_ble_eq_true rfl) ⟨(by rw [hc]; simp [i_first, *]), rfl, rfl⟩
  refine mj_iconst (v := 0) dX4_riderAt_0 rfl ?_
  refine mj_istore (ls' := [(4, _), (0, _), (1, _), (2, _), (3, _)]) dX4_riderAt_1 (Nat.le_of_ble_eq_true rfl) rfl ?_
  exact mj_ls [0, 1, 2, 3, 4] rfl (loop (bnr B) 0 (by omega) rfl)
set_option maxRecDepth 100000 in
set_option maxHeartbeats 4000000 in
theorem cn_X4_prefersToSomeAssigned {K : KX} {n : Nat} {h : MH} {p a d r : Nat} {B : BS} {S : Nat → Nat → Int32} (x : Pf h p S) (b : Bd h a B) (hd : d < 8) (hr : r < 20) : Con K mX4_prefersToSomeAssigned [.ref p, .ref a, .ref (a + 3 + 6 * d), .ref (a + 51 + r)] 0 0 n h (Ret (some (.int (bI (p_some B S d r)))) n h) := by
  have x9 := x
  have b9 := b
  have b5 := b.2.2.2.2.2.1
  have b6 := b.2.2.2.2.2.2
  obtain ⟨x0, ⟨fs, x1, f1⟩, x2⟩ := x
  have b0 := b.1
  obtain ⟨be, bt⟩ := b.2.2.2.1 d hd
  refine Con.of (by decide +kernel) (Nat.le_of_ble_eq_true rfl) ?_
  have loop : ∀ (f : Nat) (k : Nat), k + f = bnr B → p_some B S d r = i_any (fun q => decide (qdr (bX B q) = nI d) && p_dpref B S d r q) f k → GG (K, mX4_prefersToSomeAssigned, 0, 0, Ret (some (.int (bI (p_some B S d r)))) n h) 0 0 3 [(4, .int (nI k)), (0, .ref p), (1, .ref a), (2, .ref (a + 3 + 6 * d)), (3, .ref (a + 51 + r))] [] n h := by
    intro f
    induction f with
    | zero =>
      intro k hk hc
      refine mj_iload 0 dX4_prefersToSomeAssigned_3 rfl ?_
      refine mj_aload_n 2 dX4_prefersToSomeAssigned_5 rfl ?_
      refine mj_getf dX4_prefersToSomeAssigned_6 fgX4_26 (by repeat (first | assumption | exact mup_s _ _ _ | rw [mup_n _ _ (by omega)])) rfl ?_
      refine mj_icmp_ge 51 dX4_prefersToSomeAssigned_9 (by decide) (fun c_9 => ?_) (fun c_9 => ?_)
      · refine mj_iconst (v := 0) dX4_prefersToSomeAssigned_51 rfl ?_
        exact mj_zret dX4_prefersToSomeAssigned_52 rfl (by first | exact Or.inl rfl | exact Or.inr rfl) (Nat.le_of_ble_eq_true rfl) (Nat.le_of_ble_eq_true rfl) ⟨(by rw [hc]; rfl), rfl, rfl⟩
      · exact absurd (nI_le (by omega) (by omega)) c_9
    | succ f ih =>
      intro k hk hc
      have bk := b.2.2.2.2.1 k (by omega)
      refine mj_iload 0 dX4_prefersToSomeAssigned_3 rfl ?_
      refine mj_aload_n 2 dX4_prefersToSomeAssigned_5 rfl ?_
      refine mj_getf dX4_prefersToSomeAssigned_6 fgX4_26 (by repeat (first | assumption | exact mup_s _ _ _ | rw [mup_n _ _ (by omega)])) rfl ?_
      refine mj_icmp_ge 51 dX4_prefersToSomeAssigned_9 (by decide) (fun c_9 => ?_) (fun c_9 => ?_)
      · exact absurd c_9 (nI_ge (by omega) (by omega))
      · refine mj_aload_n 2 dX4_prefersToSomeAssigned_12 rfl ?_
        refine mj_iload 0 dX4_prefersToSomeAssigned_13 rfl ?_
        refine mj_cV1 [_] (RX0, TX0, 5) dX4_prefersToSomeAssigned_15 cwX0_rider lkX4_35 (by repeat (first | assumption | exact mup_s _ _ _ | rw [mup_n _ _ (by omega)])) rfl rfl rfl rfl (cn_X0_rider b9 (j := k) rfl (by omega)) ⟨Nat.le_of_ble_eq_true rfl, Nat.le_of_ble_eq_true rfl, Nat.le_of_ble_eq_true rfl, Nat.le_of_ble_eq_true rfl, Nat.le_of_ble_eq_true rfl⟩ (fun h' e' => ?_)
        subst e'
        refine mj_astore (ls' := [(5, _), (4, _), (0, _), (1, _), (2, _), (3, _)]) dX4_prefersToSomeAssigned_18 (Nat.le_of_ble_eq_true rfl) rfl ?_
        refine mj_aload 0 dX4_prefersToSomeAssigned_20 rfl ?_
        refine mj_getf dX4_prefersToSomeAssigned_22 fgX4_88 (by repeat (first | assumption | exact mup_s _ _ _ | rw [mup_n _ _ (by omega)])) rfl ?_
        refine mj_aload_n 4 dX4_prefersToSomeAssigned_25 rfl ?_
        refine mj_getf dX4_prefersToSomeAssigned_26 fgX4_45 (by repeat (first | assumption | exact mup_s _ _ _ | rw [mup_n _ _ (by omega)])) rfl ?_
        refine mj_icmp_ne 45 dX4_prefersToSomeAssigned_29 (by decide) (fun c_29 => ?_) (fun c_29 => ?_)
        · refine mj_iinc (ls' := [(4, _), (5, _), (0, _), (1, _), (2, _), (3, _)]) 1 dX4_prefersToSomeAssigned_45 rfl (nI_s _) (Nat.le_of_ble_eq_true rfl) rfl ?_
          refine mj_goto 3 dX4_prefersToSomeAssigned_48 (by decide) ?_
          exact mj_ls [0, 2, 3, 4, 5] rfl (ih (k + 1) (by omega) (by rw [hc]; simp [i_any, *]))
        · refine mj_aload_n 2 dX4_prefersToSomeAssigned_32 rfl ?_
          refine mj_aload_n 4 dX4_prefersToSomeAssigned_33 rfl ?_
          refine mj_aload_n 5 dX4_prefersToSomeAssigned_34 rfl ?_
          refine mj_aload 0 dX4_prefersToSomeAssigned_35 rfl ?_
          refine mj_cV1 [_, _, _] (RX4, TX4, 1) dX4_prefersToSomeAssigned_37 cwX4_driverPrefers lkX4_81 x0 rfl rfl rfl rfl (cn_X4_driverPrefers x9 b9 hd hr (show k < 20 by omega)) ⟨Nat.le_of_ble_eq_true rfl, Nat.le_of_ble_eq_true rfl, Nat.le_of_ble_eq_true rfl, Nat.le_of_ble_eq_true rfl, Nat.le_of_ble_eq_true rfl⟩ (fun h' e' => ?_)
          subst e'
          refine mj_if_eq 45 dX4_prefersToSomeAssigned_40 (by decide) (fun c_40 => ?_) (fun c_40 => ?_)
          · have z1 := bI_0.mp c_40
            refine mj_iinc (ls' := [(4, _), (5, _), (0, _), (1, _), (2, _), (3, _)]) 1 dX4_prefersToSomeAssigned_45 rfl (nI_s _) (Nat.le_of_ble_eq_true rfl) rfl ?_
            refine mj_goto 3 dX4_prefersToSomeAssigned_48 (by decide) ?_
            exact mj_ls [0, 2, 3, 4, 5] rfl (ih (k + 1) (by omega) (by rw [hc]; simp [i_any, *]))
          · have z1 := bI_n0.mp c_40
            refine mj_iconst (v := 1) dX4_prefersToSomeAssigned_43 rfl ?_
            exact mj_zret dX4_prefersToSomeAssigned_44 rfl (by first | exact Or.inl rfl | exact Or.inr rfl) (Nat.le_of_ble_eq_true rfl) (Nat.le_of_ble_eq_true rfl) ⟨(by rw [hc]; simp [i_any, bI, *]), rfl, rfl⟩
  refine mj_iconst (v := 0) dX4_prefersToSomeAssigned_0 rfl ?_
  refine mj_istore (ls' := [(4, _), (0, _), (1, _), (2, _), (3, _)]) dX4_prefersToSomeAssigned_1 (Nat.le_of_ble_eq_true rfl) rfl ?_
  exact mj_ls [0, 1, 2, 3, 4] rfl (loop (bnr B) 0 (by omega) rfl)
set_option maxRecDepth 100000 in
set_option maxHeartbeats 4000000 in
theorem cn_X4_isBlocking {K : KX} {n : Nat} {h : MH} {p a d r : Nat} {B : BS} {S : Nat → Nat → Int32} (x : Pf h p S) (b : Bd h a B) (hd : d < 8) (hr : r < 20) (hw : qst (bX B r) = 1 → ∃ j, j < bnd B ∧ qdr (bX B r) = nI j) : Con K mX4_isBlocking [.ref p, .ref a, .ref (a + 3 + 6 * d), .ref (a + 51 + r)] 0 0 n h (Ret (some (.int (bI (p_block B S d r)))) n h) := by
  have x9 := x
  have b9 := b
  have b5 := b.2.2.2.2.2.1
  have b6 := b.2.2.2.2.2.2
  obtain ⟨x0, ⟨fs, x1, f1⟩, x2⟩ := x
  have b0 := b.1
  have bx := b.2.2.2.2.1 r hr
  obtain ⟨be, bt⟩ := b.2.2.2.1 d hd
  refine Con.of (by decide +kernel) (Nat.le_of_ble_eq_true rfl) ?_
  refine mj_aload_n 0 dX4_isBlocking_0 rfl ?_
  refine mj_aload_n 2 dX4_isBlocking_1 rfl ?_
  refine mj_aload_n 3 dX4_isBlocking_2 rfl ?_
  refine mj_cV1 [_, _] (RX4, TX4, 1) dX4_isBlocking_3 cwX4_isCandidate lkX4_74 x0 rfl rfl rfl rfl (cn_X4_isCandidate x9 b9 hd hr) ⟨Nat.le_of_ble_eq_true rfl, Nat.le_of_ble_eq_true rfl, Nat.le_of_ble_eq_true rfl, Nat.le_of_ble_eq_true rfl, Nat.le_of_ble_eq_true rfl⟩ (fun h' e' => ?_)
  subst e'
  refine mj_if_eq 20 dX4_isBlocking_6 (by decide) (fun c_6 => ?_) (fun c_6 => ?_)
  · have z0 := bI_0.mp c_6
    refine mj_iconst (v := 0) dX4_isBlocking_20 rfl ?_
    exact mj_zret dX4_isBlocking_21 rfl (by first | exact Or.inl rfl | exact Or.inr rfl) (Nat.le_of_ble_eq_true rfl) (Nat.le_of_ble_eq_true rfl) ⟨(by unfold p_block; first | (simp [bI, *]; done) | (simp [bI, *] at *; done)), rfl, rfl⟩
  · have z0 := bI_n0.mp c_6
    refine mj_aload_n 3 dX4_isBlocking_9 rfl ?_
    refine mj_getf dX4_isBlocking_10 fgX4_88 (by repeat (first | assumption | exact mup_s _ _ _ | rw [mup_n _ _ (by omega)])) rfl ?_
    refine mj_aload_n 2 dX4_isBlocking_13 rfl ?_
    refine mj_getf dX4_isBlocking_14 fgX4_45 (by repeat (first | assumption | exact mup_s _ _ _ | rw [mup_n _ _ (by omega)])) rfl ?_
    refine mj_icmp_ne 22 dX4_isBlocking_17 (by decide) (fun c_17 => ?_) (fun c_17 => ?_)
    · refine mj_aload_n 3 dX4_isBlocking_22 rfl ?_
      refine mj_getf dX4_isBlocking_23 fgX4_85 (by repeat (first | assumption | exact mup_s _ _ _ | rw [mup_n _ _ (by omega)])) rfl ?_
      refine mj_if_eq 46 dX4_isBlocking_26 (by decide) (fun c_26 => ?_) (fun c_26 => ?_)
      · refine mj_iconst (v := 1) dX4_isBlocking_46 rfl ?_
        refine mj_goto 51 dX4_isBlocking_47 (by decide) ?_
        refine mj_istore (ls' := [(4, _), (0, _), (1, _), (2, _), (3, _)]) dX4_isBlocking_51 (Nat.le_of_ble_eq_true rfl) rfl ?_
        refine mj_iload 0 dX4_isBlocking_53 rfl ?_
        refine mj_if_eq 86 dX4_isBlocking_55 (by decide) (fun c_55 => ?_) (fun c_55 => ?_)
        · refine mj_iconst (v := 0) dX4_isBlocking_86 rfl ?_
          exact mj_zret dX4_isBlocking_87 rfl (by first | exact Or.inl rfl | exact Or.inr rfl) (Nat.le_of_ble_eq_true rfl) (Nat.le_of_ble_eq_true rfl) ⟨(by unfold p_block; first | (simp [bI, *]; done) | (simp [bI, *] at *; done)), rfl, rfl⟩
        · refine mj_aload_n 3 dX4_isBlocking_58 rfl ?_
          refine mj_getf dX4_isBlocking_59 fgX4_90 (by repeat (first | assumption | exact mup_s _ _ _ | rw [mup_n _ _ (by omega)])) rfl ?_
          refine mj_cV1 [] (RX6, TX6, 5) dX4_isBlocking_62 cwX6_riderTotal lkX4_94 (bt.1) rfl rfl rfl rfl (cn_X6_riderTotal bt) ⟨Nat.le_of_ble_eq_true rfl, Nat.le_of_ble_eq_true rfl, Nat.le_of_ble_eq_true rfl, Nat.le_of_ble_eq_true rfl, Nat.le_of_ble_eq_true rfl⟩ (fun h' e' => ?_)
          subst e'
          refine mj_aload_n 3 dX4_isBlocking_65 rfl ?_
          refine mj_getf dX4_isBlocking_66 fgX4_99 (by repeat (first | assumption | exact mup_s _ _ _ | rw [mup_n _ _ (by omega)])) rfl ?_
          refine mj_icmp_lt 82 dX4_isBlocking_69 (by decide) (fun c_69 => ?_) (fun c_69 => ?_)
          · refine mj_iconst (v := 1) dX4_isBlocking_82 rfl ?_
            refine mj_goto 87 dX4_isBlocking_83 (by decide) ?_
            exact mj_zret dX4_isBlocking_87 rfl (by first | exact Or.inl rfl | exact Or.inr rfl) (Nat.le_of_ble_eq_true rfl) (Nat.le_of_ble_eq_true rfl) ⟨(by unfold p_block; first | (simp [bI, *]; done) | (simp [bI, *] at *; done)), rfl, rfl⟩
          · refine mj_aload_n 1 dX4_isBlocking_72 rfl ?_
            refine mj_aload_n 2 dX4_isBlocking_73 rfl ?_
            refine mj_aload_n 3 dX4_isBlocking_74 rfl ?_
            refine mj_aload_n 4 dX4_isBlocking_75 rfl ?_
            refine mj_cV1 [_, _, _] (RX4, TX4, 1) dX4_isBlocking_76 cwX4_prefersToSomeAssigned lkX4_102 x0 rfl rfl rfl rfl (cn_X4_prefersToSomeAssigned x9 b9 hd hr) ⟨Nat.le_of_ble_eq_true rfl, Nat.le_of_ble_eq_true rfl, Nat.le_of_ble_eq_true rfl, Nat.le_of_ble_eq_true rfl, Nat.le_of_ble_eq_true rfl⟩ (fun h' e' => ?_)
            subst e'
            refine mj_if_eq 86 dX4_isBlocking_79 (by decide) (fun c_79 => ?_) (fun c_79 => ?_)
            · have z2 := bI_0.mp c_79
              refine mj_iconst (v := 0) dX4_isBlocking_86 rfl ?_
              exact mj_zret dX4_isBlocking_87 rfl (by first | exact Or.inl rfl | exact Or.inr rfl) (Nat.le_of_ble_eq_true rfl) (Nat.le_of_ble_eq_true rfl) ⟨(by unfold p_block; first | (simp [bI, *]; done) | (simp [bI, *] at *; done)), rfl, rfl⟩
            · have z2 := bI_n0.mp c_79
              refine mj_iconst (v := 1) dX4_isBlocking_82 rfl ?_
              refine mj_goto 87 dX4_isBlocking_83 (by decide) ?_
              exact mj_zret dX4_isBlocking_87 rfl (by first | exact Or.inl rfl | exact Or.inr rfl) (Nat.le_of_ble_eq_true rfl) (Nat.le_of_ble_eq_true rfl) ⟨(by unfold p_block; first | (simp [bI, *]; done) | (simp [bI, *] at *; done)), rfl, rfl⟩
      · refine mj_aload_n 0 dX4_isBlocking_29 rfl ?_
        refine mj_aload_n 3 dX4_isBlocking_30 rfl ?_
        refine mj_aload_n 2 dX4_isBlocking_31 rfl ?_
        refine mj_aload_n 1 dX4_isBlocking_32 rfl ?_
        refine mj_aload_n 3 dX4_isBlocking_33 rfl ?_
        refine mj_getf dX4_isBlocking_34 fgX4_88 (by repeat (first | assumption | exact mup_s _ _ _ | rw [mup_n _ _ (by omega)])) rfl ?_
        have hst : qst (bX B r) = 1 := by
          have z9 := z0
          unfold p_cand at z9
          simp only [Bool.and_eq_true, Bool.or_eq_true, decide_eq_true_eq] at z9
          exact z9.1.resolve_left c_26
        obtain ⟨j, hj, ej⟩ := hw hst
        have ij : i_nat (qdr (bX B r)) = j := by rw [ej]; exact i_nat_nI (by omega)
        obtain ⟨bj, btj⟩ := b9.2.2.2.1 j (by omega)
        refine mj_cV1 [_] (RX0, TX0, 5) dX4_isBlocking_37 cwX0_driver lkX4_22 (by repeat (first | assumption | exact mup_s _ _ _ | rw [mup_n _ _ (by omega)])) rfl rfl rfl rfl (cn_X0_driver b9 (j := j) ej hj) ⟨Nat.le_of_ble_eq_true rfl, Nat.le_of_ble_eq_true rfl, Nat.le_of_ble_eq_true rfl, Nat.le_of_ble_eq_true rfl, Nat.le_of_ble_eq_true rfl⟩ (fun h' e' => ?_)
        subst e'
        clear ej hw
        refine mj_cV1 [_, _, _] (RX4, TX4, 1) dX4_isBlocking_40 cwX4_riderPrefers lkX4_70 x0 rfl rfl rfl rfl (cn_X4_riderPrefers x9 b9 hd (show j < 8 by omega) hr) ⟨Nat.le_of_ble_eq_true rfl, Nat.le_of_ble_eq_true rfl, Nat.le_of_ble_eq_true rfl, Nat.le_of_ble_eq_true rfl, Nat.le_of_ble_eq_true rfl⟩ (fun h' e' => ?_)
        subst e'
        refine mj_if_eq 50 dX4_isBlocking_43 (by decide) (fun c_43 => ?_) (fun c_43 => ?_)
        · have z1 := bI_0.mp c_43
          refine mj_iconst (v := 0) dX4_isBlocking_50 rfl ?_
          refine mj_istore (ls' := [(4, _), (0, _), (1, _), (2, _), (3, _)]) dX4_isBlocking_51 (Nat.le_of_ble_eq_true rfl) rfl ?_
          refine mj_iload 0 dX4_isBlocking_53 rfl ?_
          refine mj_if_eq 86 dX4_isBlocking_55 (by decide) (fun c_55 => ?_) (fun c_55 => ?_)
          · refine mj_iconst (v := 0) dX4_isBlocking_86 rfl ?_
            exact mj_zret dX4_isBlocking_87 rfl (by first | exact Or.inl rfl | exact Or.inr rfl) (Nat.le_of_ble_eq_true rfl) (Nat.le_of_ble_eq_true rfl) ⟨(by unfold p_block; first | (simp [bI, *]; done) | (simp [bI, *] at *; done)), rfl, rfl⟩
          · refine mj_aload_n 3 dX4_isBlocking_58 rfl ?_
            refine mj_getf dX4_isBlocking_59 fgX4_90 (by repeat (first | assumption | exact mup_s _ _ _ | rw [mup_n _ _ (by omega)])) rfl ?_
            refine mj_cV1 [] (RX6, TX6, 5) dX4_isBlocking_62 cwX6_riderTotal lkX4_94 (bt.1) rfl rfl rfl rfl (cn_X6_riderTotal bt) ⟨Nat.le_of_ble_eq_true rfl, Nat.le_of_ble_eq_true rfl, Nat.le_of_ble_eq_true rfl, Nat.le_of_ble_eq_true rfl, Nat.le_of_ble_eq_true rfl⟩ (fun h' e' => ?_)
            subst e'
            refine mj_aload_n 3 dX4_isBlocking_65 rfl ?_
            refine mj_getf dX4_isBlocking_66 fgX4_99 (by repeat (first | assumption | exact mup_s _ _ _ | rw [mup_n _ _ (by omega)])) rfl ?_
            refine mj_icmp_lt 82 dX4_isBlocking_69 (by decide) (fun c_69 => ?_) (fun c_69 => ?_)
            · refine mj_iconst (v := 1) dX4_isBlocking_82 rfl ?_
              refine mj_goto 87 dX4_isBlocking_83 (by decide) ?_
              exact mj_zret dX4_isBlocking_87 rfl (by first | exact Or.inl rfl | exact Or.inr rfl) (Nat.le_of_ble_eq_true rfl) (Nat.le_of_ble_eq_true rfl) ⟨(by unfold p_block; first | (simp [bI, *]; done) | (simp [bI, *] at *; done)), rfl, rfl⟩
            · refine mj_aload_n 1 dX4_isBlocking_72 rfl ?_
              refine mj_aload_n 2 dX4_isBlocking_73 rfl ?_
              refine mj_aload_n 3 dX4_isBlocking_74 rfl ?_
              refine mj_aload_n 4 dX4_isBlocking_75 rfl ?_
              refine mj_cV1 [_, _, _] (RX4, TX4, 1) dX4_isBlocking_76 cwX4_prefersToSomeAssigned lkX4_102 x0 rfl rfl rfl rfl (cn_X4_prefersToSomeAssigned x9 b9 hd hr) ⟨Nat.le_of_ble_eq_true rfl, Nat.le_of_ble_eq_true rfl, Nat.le_of_ble_eq_true rfl, Nat.le_of_ble_eq_true rfl, Nat.le_of_ble_eq_true rfl⟩ (fun h' e' => ?_)
              subst e'
              refine mj_if_eq 86 dX4_isBlocking_79 (by decide) (fun c_79 => ?_) (fun c_79 => ?_)
              · have z2 := bI_0.mp c_79
                refine mj_iconst (v := 0) dX4_isBlocking_86 rfl ?_
                exact mj_zret dX4_isBlocking_87 rfl (by first | exact Or.inl rfl | exact Or.inr rfl) (Nat.le_of_ble_eq_true rfl) (Nat.le_of_ble_eq_true rfl) ⟨(by unfold p_block; first | (simp [bI, *]; done) | (simp [bI, *] at *; done)), rfl, rfl⟩
              · have z2 := bI_n0.mp c_79
                refine mj_iconst (v := 1) dX4_isBlocking_82 rfl ?_
                refine mj_goto 87 dX4_isBlocking_83 (by decide) ?_
                exact mj_zret dX4_isBlocking_87 rfl (by first | exact Or.inl rfl | exact Or.inr rfl) (Nat.le_of_ble_eq_true rfl) (Nat.le_of_ble_eq_true rfl) ⟨(by unfold p_block; first | (simp [bI, *]; done) | (simp [bI, *] at *; done)), rfl, rfl⟩
        · have z1 := bI_n0.mp c_43
          refine mj_iconst (v := 1) dX4_isBlocking_46 rfl ?_
          refine mj_goto 51 dX4_isBlocking_47 (by decide) ?_
          refine mj_istore (ls' := [(4, _), (0, _), (1, _), (2, _), (3, _)]) dX4_isBlocking_51 (Nat.le_of_ble_eq_true rfl) rfl ?_
          refine mj_iload 0 dX4_isBlocking_53 rfl ?_
          refine mj_if_eq 86 dX4_isBlocking_55 (by decide) (fun c_55 => ?_) (fun c_55 => ?_)
          · refine mj_iconst (v := 0) dX4_isBlocking_86 rfl ?_
            exact mj_zret dX4_isBlocking_87 rfl (by first | exact Or.inl rfl | exact Or.inr rfl) (Nat.le_of_ble_eq_true rfl) (Nat.le_of_ble_eq_true rfl) ⟨(by unfold p_block; first | (simp [bI, *]; done) | (simp [bI, *] at *; done)), rfl, rfl⟩
          · refine mj_aload_n 3 dX4_isBlocking_58 rfl ?_
            refine mj_getf dX4_isBlocking_59 fgX4_90 (by repeat (first | assumption | exact mup_s _ _ _ | rw [mup_n _ _ (by omega)])) rfl ?_
            refine mj_cV1 [] (RX6, TX6, 5) dX4_isBlocking_62 cwX6_riderTotal lkX4_94 (bt.1) rfl rfl rfl rfl (cn_X6_riderTotal bt) ⟨Nat.le_of_ble_eq_true rfl, Nat.le_of_ble_eq_true rfl, Nat.le_of_ble_eq_true rfl, Nat.le_of_ble_eq_true rfl, Nat.le_of_ble_eq_true rfl⟩ (fun h' e' => ?_)
            subst e'
            refine mj_aload_n 3 dX4_isBlocking_65 rfl ?_
            refine mj_getf dX4_isBlocking_66 fgX4_99 (by repeat (first | assumption | exact mup_s _ _ _ | rw [mup_n _ _ (by omega)])) rfl ?_
            refine mj_icmp_lt 82 dX4_isBlocking_69 (by decide) (fun c_69 => ?_) (fun c_69 => ?_)
            · refine mj_iconst (v := 1) dX4_isBlocking_82 rfl ?_
              refine mj_goto 87 dX4_isBlocking_83 (by decide) ?_
              exact mj_zret dX4_isBlocking_87 rfl (by first | exact Or.inl rfl | exact Or.inr rfl) (Nat.le_of_ble_eq_true rfl) (Nat.le_of_ble_eq_true rfl) ⟨(by unfold p_block; first | (simp [bI, *]; done) | (simp [bI, *] at *; done)), rfl, rfl⟩
            · refine mj_aload_n 1 dX4_isBlocking_72 rfl ?_
              refine mj_aload_n 2 dX4_isBlocking_73 rfl ?_
              refine mj_aload_n 3 dX4_isBlocking_74 rfl ?_
              refine mj_aload_n 4 dX4_isBlocking_75 rfl ?_
              refine mj_cV1 [_, _, _] (RX4, TX4, 1) dX4_isBlocking_76 cwX4_prefersToSomeAssigned lkX4_102 x0 rfl rfl rfl rfl (cn_X4_prefersToSomeAssigned x9 b9 hd hr) ⟨Nat.le_of_ble_eq_true rfl, Nat.le_of_ble_eq_true rfl, Nat.le_of_ble_eq_true rfl, Nat.le_of_ble_eq_true rfl, Nat.le_of_ble_eq_true rfl⟩ (fun h' e' => ?_)
              subst e'
              refine mj_if_eq 86 dX4_isBlocking_79 (by decide) (fun c_79 => ?_) (fun c_79 => ?_)
              · have z2 := bI_0.mp c_79
                refine mj_iconst (v := 0) dX4_isBlocking_86 rfl ?_
                exact mj_zret dX4_isBlocking_87 rfl (by first | exact Or.inl rfl | exact Or.inr rfl) (Nat.le_of_ble_eq_true rfl) (Nat.le_of_ble_eq_true rfl) ⟨(by unfold p_block; first | (simp [bI, *]; done) | (simp [bI, *] at *; done)), rfl, rfl⟩
              · have z2 := bI_n0.mp c_79
                refine mj_iconst (v := 1) dX4_isBlocking_82 rfl ?_
                refine mj_goto 87 dX4_isBlocking_83 (by decide) ?_
                exact mj_zret dX4_isBlocking_87 rfl (by first | exact Or.inl rfl | exact Or.inr rfl) (Nat.le_of_ble_eq_true rfl) (Nat.le_of_ble_eq_true rfl) ⟨(by unfold p_block; first | (simp [bI, *]; done) | (simp [bI, *] at *; done)), rfl, rfl⟩
    · refine mj_iconst (v := 0) dX4_isBlocking_20 rfl ?_
      exact mj_zret dX4_isBlocking_21 rfl (by first | exact Or.inl rfl | exact Or.inr rfl) (Nat.le_of_ble_eq_true rfl) (Nat.le_of_ble_eq_true rfl) ⟨(by unfold p_block; first | (simp [bI, *]; done) | (simp [bI, *] at *; done)), rfl, rfl⟩
def b_solo (B : BS) (d r : Nat) : Int32 := if ddo (bD B d) then -1 else s_alone B r d
def PfU (S : Nat → Nat → Int32) (B : BS) (k l : Nat) : Prop := (∀ d r, d < k → r < bnr B → S d r = b_solo B d r) ∧ ∀ r, r < l → S k r = b_solo B k r
theorem Pf.set {h h' : MH} {p d j : Nat} {v : Int32} {S : Nat → Nat → Int32} (x : Pf h p S) (hd : d < 8) (e : h' (p + 2 + d) = some (cI 20 (upd (S d) j v))) (o : Off (p + 2 + d) (p + 3 + d) h h') : Pf h' p (fun d' => if d' = d then upd (S d) j v else S d') := by
  obtain ⟨x0, ⟨f, x1, f1⟩, x2⟩ := x
  refine ⟨o.at x0 (by omega), ⟨f, o.at x1 (by omega), f1⟩, fun d' hd' => ?_⟩
  by_cases q : d' = d
  · subst q
    dsimp only
    rw [if_pos rfl]
    exact e
  · dsimp only
    rw [if_neg q]
    exact o.at (x2 d' hd') (by omega)
theorem PfU.go {S : Nat → Nat → Int32} {B : BS} {k l : Nat} (u : PfU S B k l) : PfU (fun d' => if d' = k then upd (S k) l (b_solo B k l) else S d') B k (l + 1) := by
  refine ⟨fun d r hd hr => ?_, fun r hr => ?_⟩
  · dsimp only
    rw [if_neg (by omega)]
    exact u.1 d r hd hr
  · dsimp only
    rw [if_pos rfl]
    unfold upd
    by_cases q : r = l
    · rw [if_pos q, q]
    · rw [if_neg q]
      exact u.2 r (by omega)
set_option maxRecDepth 100000 in
set_option maxHeartbeats 4000000 in
theorem cn_X4_read {K : KX} {n : Nat} {h : MH} {p a g : Nat} {B : BS} {S : Nat → Nat → Int32} (x : Pf h p S) (b : Bd h a B) (i9 : InE h g) (ht : Tok B) (hg : a + 71 ≤ g ∨ g + 11 ≤ a) (hp : a + 71 ≤ p ∨ p + 10 ≤ a) (hq : g + 11 ≤ p ∨ p + 10 ≤ g) : Con K mX4_read [.ref p, .ref a, .ref g] 0 0 n h (RetP none n (fun h' => ∃ S', Pf h' p S' ∧ (∀ d r, d < bnd B → r < bnr B → S' d r = b_solo B d r) ∧ InE h' g ∧ Off2 p (p + 10) g (g + 11) h h')) := by
  refine Con.of (by decide +kernel) (Nat.le_of_ble_eq_true rfl) ?_
  have b5 := b.2.2.2.2.2.1
  have b6 := b.2.2.2.2.2.2
  have loop : ∀ (f : Nat) (k : Nat) (S1 : Nat → Nat → Int32) (h1 : MH) (ls : List (Nat × Value)), k + f = bnd B → Pf h1 p S1 → PfU S1 B k 0 → InE h1 g → Off2 p (p + 10) g (g + 11) h h1 → ls = (3, .int (nI k)) :: [(0, .ref p), (1, .ref a), (2, .ref g)] → GG (K, mX4_read, 0, 0, RetP none n (fun h' => ∃ S', Pf h' p S' ∧ (∀ d r, d < bnd B → r < bnr B → S' d r = b_solo B d r) ∧ InE h' g ∧ Off2 p (p + 10) g (g + 11) h h')) 0 0 2 ls [] n h1 := by
    intro f
    induction f with
    | zero =>
      intro k S1 h1 ls hl x u i9 o el
      subst el
      have b9 := b.at (h' := h1) (fun q w1 w2 => o q (by omega) (by omega))
      have b0 := b9.1
      obtain ⟨x0, ⟨fs, x1, f1⟩, x2⟩ := id x
      obtain ⟨T0, pa0, da0, i0⟩ := id i9
      have i00 := i0.1
      refine mj_iload_n 0 dX4_read_2 rfl ?_
      refine mj_aload_n 2 dX4_read_3 rfl ?_
      refine mj_getf dX4_read_4 fgX4_16 (by repeat (first | assumption | exact mup_s _ _ _ | rw [mup_n _ _ (by omega)])) rfl ?_
      refine mj_icmp_ge 74 dX4_read_7 (by decide) (fun c_7 => ?_) (fun c_7 => ?_)
      · exact mj_vret dX4_read_74 rfl (Nat.le_of_ble_eq_true rfl) (Nat.le_of_ble_eq_true rfl) ⟨rfl, rfl, ⟨S1, x, fun d r hd hr => u.1 d r (by omega) hr, i9, o⟩⟩
      · exact absurd (nI_le (show bnd B ≤ k by omega) (by omega)) c_7
    | succ f ih =>
      intro k S1 h1 ls hl x u i9 o el
      subst el
      have loop2 : ∀ (f : Nat) (l : Nat) (S1 : Nat → Nat → Int32) (h1 : MH) (ls : List (Nat × Value)), l + f = bnr B → Pf h1 p S1 → PfU S1 B k l → InE h1 g → Off2 p (p + 10) g (g + 11) h h1 → ls = (5, .int (nI l)) :: (3, .int (nI k)) :: (4, .ref (a + 3 + 6 * k)) :: [(0, .ref p), (1, .ref a), (2, .ref g)] → GG (K, mX4_read, 0, 0, RetP none n (fun h' => ∃ S', Pf h' p S' ∧ (∀ d r, d < bnd B → r < bnr B → S' d r = b_solo B d r) ∧ InE h' g ∧ Off2 p (p + 10) g (g + 11) h h')) 0 0 20 ls [] n h1 := by
        intro f
        induction f with
        | zero =>
          intro l S1 h1 ls hl x u i9 o el
          subst el
          have b9 := b.at (h' := h1) (fun q w1 w2 => o q (by omega) (by omega))
          have b0 := b9.1
          obtain ⟨x0, ⟨fs, x1, f1⟩, x2⟩ := id x
          obtain ⟨T0, pa0, da0, i0⟩ := id i9
          have i00 := i0.1
          refine mj_iload 0 dX4_read_20 rfl ?_
          refine mj_aload_n 4 dX4_read_22 rfl ?_
          refine mj_getf dX4_read_23 fgX4_26 (by repeat (first | assumption | exact mup_s _ _ _ | rw [mup_n _ _ (by omega)])) rfl ?_
          refine mj_icmp_ge 68 dX4_read_26 (by decide) (fun c_26 => ?_) (fun c_26 => ?_)
          · refine mj_iinc (ls' := [(3, _), (5, _), (4, _), (0, _), (1, _), (2, _)]) 1 dX4_read_68 rfl (nI_s _) (Nat.le_of_ble_eq_true rfl) rfl ?_
            refine mj_goto 2 dX4_read_71 (by decide) ?_
            exact mj_ls [0, 3, 4, 5] rfl (ih (k + 1) S1 h1 _ (by omega) x ⟨fun d r hd hr => by by_cases e : d = k; (subst e; exact u.2 r (by omega)); (exact u.1 d r (by omega) hr), fun r hr => absurd hr (by omega)⟩ i9 o rfl)
          · exact absurd (nI_le (show bnr B ≤ l by omega) (by omega)) c_26
        | succ f2 ih2 =>
          intro l S1 h1 ls hl x u i9 o el
          subst el
          have b9 := b.at (h' := h1) (fun q w1 w2 => o q (by omega) (by omega))
          have b0 := b9.1
          obtain ⟨x0, ⟨fs, x1, f1⟩, x2⟩ := id x
          obtain ⟨T0, pa0, da0, i0⟩ := id i9
          have i00 := i0.1
          obtain ⟨be, bt⟩ := b9.2.2.2.1 k (by omega)
          refine mj_iload 0 dX4_read_20 rfl ?_
          refine mj_aload_n 4 dX4_read_22 rfl ?_
          refine mj_getf dX4_read_23 fgX4_26 (by repeat (first | assumption | exact mup_s _ _ _ | rw [mup_n _ _ (by omega)])) rfl ?_
          refine mj_icmp_ge 68 dX4_read_26 (by decide) (fun c_26 => ?_) (fun c_26 => ?_)
          · exact absurd c_26 (nI_ge (show l < bnr B by omega) (by omega))
          · refine mj_aload_n 3 dX4_read_29 rfl ?_
            refine mj_getf dX4_read_30 fgX4_11 (by repeat (first | assumption | exact mup_s _ _ _ | rw [mup_n _ _ (by omega)])) rfl ?_
            refine mj_iload_n 1 dX4_read_33 rfl ?_
            refine mj_aaldI (by repeat (first | assumption | exact mup_s _ _ _ | rw [mup_n _ _ (by omega)])) (ixn (by omega)) (show k < 8 by omega) dX4_read_34 ?_
            rw [f1 k (by omega)]
            have xr_k := x2 k (by omega)
            refine mj_iload 0 dX4_read_35 rfl ?_
            refine mj_aload 2 dX4_read_37 rfl ?_
            refine mj_getf dX4_read_39 fgX4_29 (by repeat (first | assumption | exact mup_s _ _ _ | rw [mup_n _ _ (by omega)])) rfl ?_
            refine mj_if_eq 49 dX4_read_42 (by decide) (fun c_42 => ?_) (fun c_42 => ?_)
            · have z := bI_0.mp c_42
              refine mj_aload_n 5 dX4_read_49 rfl ?_
              refine mj_aload_n 4 dX4_read_50 rfl ?_
              refine mj_iload 0 dX4_read_51 rfl ?_
              refine mj_cV1 [_] (RX0, TX0, 5) dX4_read_53 cwX0_rider lkX4_35 (by repeat (first | assumption | exact mup_s _ _ _ | rw [mup_n _ _ (by omega)])) rfl rfl rfl rfl (cn_X0_rider b9 (j := l) rfl (by omega)) ⟨Nat.le_of_ble_eq_true rfl, Nat.le_of_ble_eq_true rfl, Nat.le_of_ble_eq_true rfl, Nat.le_of_ble_eq_true rfl, Nat.le_of_ble_eq_true rfl⟩ (fun h' e' => ?_)
              subst e'
              refine mj_aload 2 dX4_read_56 rfl ?_
              refine mj_cV1 [_, _] (RX2, TX2, 4) dX4_read_58 cwX2_extraAlone lkX4_39 i00 rfl rfl rfl rfl (cn_X2_extraAlone i9 b9 (by omega) (by omega) (ht k (by omega)) (by omega)) ⟨Nat.le_of_ble_eq_true rfl, Nat.le_of_ble_eq_true rfl, Nat.le_of_ble_eq_true rfl, Nat.le_of_ble_eq_true rfl, Nat.le_of_ble_eq_true rfl⟩ (fun h' e' => ?_)
              obtain ⟨i8, o8⟩ := e'
              have x8 := x.off o8 (by omega)
              have o7 := o.tr o8.to2
              have xr_k := x8.2.2 k (by omega)
              have vv : s_alone B l k = b_solo B k l := by unfold b_solo; rw [if_neg (by rw [show ddo (bD B k) = false from z]; decide)]
              rw [vv]
              refine mj_iast (by repeat (first | assumption | exact mup_s _ _ _ | rw [mup_n _ _ (by omega)])) (by first | assumption | rfl | exact ixn (by omega)) (by first | assumption | decide | omega) dX4_read_61 ?_
              refine mj_iinc (ls' := [(5, _), (3, _), (4, _), (0, _), (1, _), (2, _)]) 0 dX4_read_62 rfl (nI_s _) (Nat.le_of_ble_eq_true rfl) rfl ?_
              refine mj_goto 20 dX4_read_65 (by decide) ?_
              exact mj_ls [0, 1, 2, 3, 4, 5] rfl (ih2 (l + 1) _ _ _ (by omega) (x8.set (by omega) (mup_s _ _ _) (Off.m0 _ (by omega) (by omega))) u.go (i8.at fun q w1 w2 => mup_n _ _ (by omega)) (o7.tr (Off.m0 (a := p) (b := p + 10) _ (by omega) (by omega)).to1) rfl)
            · have z := bI_n0.mp c_42
              have i8 := i9
              have x8 := x
              have o7 := o
              have vv : (-1 : Int32) = b_solo B k l := by unfold b_solo; rw [if_pos z]
              refine mj_iconst (v := (-1)) dX4_read_45 rfl ?_
              rw [vv]
              refine mj_goto 61 dX4_read_46 (by decide) ?_
              refine mj_iast (by repeat (first | assumption | exact mup_s _ _ _ | rw [mup_n _ _ (by omega)])) (by first | assumption | rfl | exact ixn (by omega)) (by first | assumption | decide | omega) dX4_read_61 ?_
              refine mj_iinc (ls' := [(5, _), (3, _), (4, _), (0, _), (1, _), (2, _)]) 0 dX4_read_62 rfl (nI_s _) (Nat.le_of_ble_eq_true rfl) rfl ?_
              refine mj_goto 20 dX4_read_65 (by decide) ?_
              exact mj_ls [0, 1, 2, 3, 4, 5] rfl (ih2 (l + 1) _ _ _ (by omega) (x8.set (by omega) (mup_s _ _ _) (Off.m0 _ (by omega) (by omega))) u.go (i8.at fun q w1 w2 => mup_n _ _ (by omega)) (o7.tr (Off.m0 (a := p) (b := p + 10) _ (by omega) (by omega)).to1) rfl)
      have b9 := b.at (h' := h1) (fun q w1 w2 => o q (by omega) (by omega))
      have b0 := b9.1
      obtain ⟨x0, ⟨fs, x1, f1⟩, x2⟩ := id x
      obtain ⟨T0, pa0, da0, i0⟩ := id i9
      have i00 := i0.1
      refine mj_iload_n 0 dX4_read_2 rfl ?_
      refine mj_aload_n 2 dX4_read_3 rfl ?_
      refine mj_getf dX4_read_4 fgX4_16 (by repeat (first | assumption | exact mup_s _ _ _ | rw [mup_n _ _ (by omega)])) rfl ?_
      refine mj_icmp_ge 74 dX4_read_7 (by decide) (fun c_7 => ?_) (fun c_7 => ?_)
      · exact absurd c_7 (nI_ge (show k < bnd B by omega) (by omega))
      · refine mj_aload_n 2 dX4_read_10 rfl ?_
        refine mj_iload_n 0 dX4_read_11 rfl ?_
        refine mj_cV1 [_] (RX0, TX0, 5) dX4_read_12 cwX0_driver lkX4_22 (by repeat (first | assumption | exact mup_s _ _ _ | rw [mup_n _ _ (by omega)])) rfl rfl rfl rfl (cn_X0_driver b9 (j := k) rfl (by omega)) ⟨Nat.le_of_ble_eq_true rfl, Nat.le_of_ble_eq_true rfl, Nat.le_of_ble_eq_true rfl, Nat.le_of_ble_eq_true rfl, Nat.le_of_ble_eq_true rfl⟩ (fun h' e' => ?_)
        subst e'
        refine mj_astore (ls' := [(4, _), (3, _), (0, _), (1, _), (2, _)]) dX4_read_15 (Nat.le_of_ble_eq_true rfl) rfl ?_
        refine mj_iconst (v := 0) dX4_read_17 rfl ?_
        refine mj_istore (ls' := [(5, _), (4, _), (3, _), (0, _), (1, _), (2, _)]) dX4_read_18 (Nat.le_of_ble_eq_true rfl) rfl ?_
        exact mj_ls [0, 2, 1, 3, 4, 5] rfl (loop2 (bnr B) 0 S1 _ _ (by omega) x u i9 o rfl)
  refine mj_iconst (v := 0) dX4_read_0 rfl ?_
  refine mj_istore_n (ls' := [(3, _), (0, _), (1, _), (2, _)]) dX4_read_1 (Nat.le_of_ble_eq_true rfl) rfl ?_
  exact mj_ls [0, 1, 2, 3] rfl (loop (bnd B) 0 S h _ (by omega) x ⟨fun d r hd hr => absurd hd (by omega), fun r hr => absurd hr (by omega)⟩ i9 (fun _ _ _ => rfl) rfl)
set_option maxRecDepth 100000 in
set_option maxHeartbeats 4000000 in
theorem cn_X4_init {K : KX} {n : Nat} {h : MH} {p : Nat} (hn : n = p + 1) (x : h p = some (cO 4 [.null])) : Con K mX4_init [.ref p] 9 168 n h (RetP none (n + 9) (fun h' => ∃ S, Pf h' p S ∧ Off p (p + 10) h h')) := by
  refine Con.of (by decide +kernel) (Nat.le_of_ble_eq_true rfl) ?_
  subst hn
  refine mj_aload_n 0 dX4_init_0 rfl ?_
  refine mj_objInit dX4_init_1 mlX4_3 im_obj cd_obj (Nat.le_of_ble_eq_true rfl) (Nat.le_of_ble_eq_true rfl) ?_
  refine mj_aload_n 0 dX4_init_4 rfl ?_
  refine mj_bipush (v := (8)) dX4_init_5 rfl ?_
  refine mj_bipush (v := (20)) dX4_init_7 rfl ?_
  refine mj_mna dX4_init_9 clX4_9 ao_I ac_int (show (8 : Int32).toInt = ((8 : Nat) : Int) from rfl) (by omega) (show (20 : Int32).toInt = ((20 : Nat) : Int) from rfl) (by omega) (Nat.le_of_ble_eq_true rfl) (Nat.le_of_ble_eq_true rfl) ?_
  have x1 : mupRows h (p + 1) 8 20 p = some (cO 4 [.null]) := by unfold mupRows; rw [if_neg (by omega), if_neg (by omega)]; exact x
  refine mj_putG dX4_init_13 ffX4_11 (by repeat (first | assumption | exact mup_s _ _ _ | rw [mup_n _ _ (by omega)])) rfl rfl (by intro r h9; cases h9; rfl) rfl rfl (Nat.le_of_ble_eq_true rfl) rfl ?_
  exact mj_vret dX4_init_16 rfl (Nat.le_of_ble_eq_true rfl) (Nat.le_of_ble_eq_true rfl) ⟨rfl, rfl, ⟨fun _ _ => 0, ⟨mup_s _ _ _, ⟨_, (by rw [mup_n _ _ (by omega)]; unfold mupRows; rw [if_pos rfl]), fun d hd => by rw [if_pos hd]⟩, fun d hd => by rw [mup_n _ _ (by omega)]; unfold mupRows; rw [if_neg (by omega), if_pos (by omega)]⟩, fun q hq => by rw [mup_n _ _ (by omega)]; unfold mupRows; rw [if_neg (by omega), if_neg (by omega)]⟩⟩
