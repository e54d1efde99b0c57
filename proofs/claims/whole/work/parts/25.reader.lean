theorem b_setT_twice (C : BS) (d : Nat) (X Y : RS) : b_setT (b_setT C d X) d Y = b_setT C d Y := by
  have : vf_upd (vf_upd (bT C) d X) d Y = vf_upd (bT C) d Y := by funext j; unfold vf_upd; split <;> rfl
  show (_, _, _, _, vf_upd (vf_upd (bT C) d X) d Y, _) = _
  rw [this]
  rfl
def k_isw (T : Nat → Int32) (m : Nat) (S : KS) (q : Nat) : Bool := decide (kkd S = 1) && decide (ken S - kst S = swL.getD q 0) && !i_any (fun k => !decide (k_at T m (kst S + k) = (swB.getD q []).getD k 0)) (swL.getD q 0) 0
def k_setV (S : KS) (k : Nat) (v : Int32) : KS := (upd (kV S) k v, kfc S, kfp S, kkd S, kst S, ken S, kva S)
def k_nums (T : Nat → Int32) (m : Nat) (ql qh : Nat) : Nat → Nat → KS → Bool × KS
  | 0, _, S => (true, S)
  | f + 1, k, S => if ¬ kkd (k_next T m S) = 2 then (false, k_fail (k_next T m S) 1)
    else if b_in (kva (k_next T m S)) ((saV ql).getD k 0) ((saV qh).getD k 0) then k_nums T m ql qh f (k + 1) (k_setV (k_next T m S) k (kva (k_next T m S)))
    else (false, k_fail (k_next T m S) 2)
theorem k_nums_ok {T : Nat → Int32} {m ql qh : Nat} : ∀ f k S, KOk S m → KOk (k_nums T m ql qh f k S).2 m
  | 0, _, S, h => h
  | f + 1, k, S, h => by
    have h1 : KOk (k_next T m S) m := k_next_ok h
    unfold k_nums
    split
    · exact h1
    · split
      · exact k_nums_ok f (k + 1) _ h1
      · exact h1
def k_drvB (B : BS) (V : Nat → Int32) : BS := b_setT (b_setD (b_head B (bnd B + 1) (bnr B) (bpe B)) (bnd B) (V 4, V 5, V 6, V 7, false, 0)) (bnd B) (r_begin (r_begin (bT B (bnd B)) 0 0 0 0) (V 0) (V 1) (V 2) (V 3))
def k_drv (T : Nat → Int32) (m : Nat) (S : KS) (B : BS) : Bool × KS × BS :=
  if 8 ≤ bnd B then (false, k_fail S 3, B) else if (k_nums T m 0 1 8 0 S).1 then (true, (k_nums T m 0 1 8 0 S).2, k_drvB B (kV (k_nums T m 0 1 8 0 S).2)) else (false, (k_nums T m 0 1 8 0 S).2, B)
def k_rdrB (B : BS) (V : Nat → Int32) : BS := b_setX (b_head B (bnd B) (bnr B + 1) (bpe B)) (bnr B) (V 0, V 1, V 2, V 3, V 4, V 5, 0, -1, 0)
def k_rdr (T : Nat → Int32) (m : Nat) (S : KS) (B : BS) : Bool × KS × BS :=
  if 20 ≤ bnr B then (false, k_fail S 3, B) else if (k_nums T m 2 3 6 0 S).1 then (true, (k_nums T m 2 3 6 0 S).2, k_rdrB B (kV (k_nums T m 2 3 6 0 S).2)) else (false, (k_nums T m 2 3 6 0 S).2, B)
def k_pen (T : Nat → Int32) (m : Nat) (S : KS) (B : BS) : Bool × KS × BS :=
  if (k_nums T m 4 5 1 0 S).1 then (true, (k_nums T m 4 5 1 0 S).2, b_head B (bnd B) (bnr B) (kV (k_nums T m 4 5 1 0 S).2 0)) else (false, (k_nums T m 4 5 1 0 S).2, B)
def k_end (T : Nat → Int32) (m : Nat) (s : Bool × KS × BS) : Bool × KS × BS :=
  if s.1 then (if kkd (k_next T m s.2.1) = 3 then (true, k_next T m s.2.1, s.2.2) else (false, k_fail (k_next T m s.2.1) 1, s.2.2)) else s
def k_stmt (T : Nat → Int32) (m : Nat) (S : KS) (B : BS) : Bool × KS × BS :=
  if k_isw T m S 0 then k_end T m (k_drv T m S B) else if k_isw T m S 1 then k_end T m (k_rdr T m S B) else if k_isw T m S 2 then k_end T m (k_pen T m S B) else (false, k_fail S 1, B)
def k_loop (T : Nat → Int32) (m : Nat) : Nat → Nat → KS → BS → Int32 × KS × BS
  | 0, c, S, B => (nI c, S, B)
  | f + 1, c, S, B => if kkd S = 0 then (nI c, S, B) else if (k_stmt T m S B).1 then k_loop T m f (c + 1) (k_next T m (k_stmt T m S B).2.1) (k_stmt T m S B).2.2 else (-1, (k_stmt T m S B).2.1, (k_stmt T m S B).2.2)
def k_read (T : Nat → Int32) (m : Nat) (S : KS) (B : BS) : Int32 × KS × BS := k_loop T m 601 0 (k_next T m (kV S, 0, -1, kkd S, kst S, 0, kva S)) (b_head B 0 0 500)
theorem k_drv_ok {T : Nat → Int32} {m : Nat} {S : KS} {B : BS} (h : KOk S m) : KOk (k_drv T m S B).2.1 m := by
  unfold k_drv
  split
  · exact h
  · split <;> exact k_nums_ok _ _ _ h
theorem k_rdr_ok {T : Nat → Int32} {m : Nat} {S : KS} {B : BS} (h : KOk S m) : KOk (k_rdr T m S B).2.1 m := by
  unfold k_rdr
  split
  · exact h
  · split <;> exact k_nums_ok _ _ _ h
theorem k_pen_ok {T : Nat → Int32} {m : Nat} {S : KS} {B : BS} (h : KOk S m) : KOk (k_pen T m S B).2.1 m := by
  unfold k_pen
  split <;> exact k_nums_ok _ _ _ h
theorem k_end_ok {T : Nat → Int32} {m : Nat} {s : Bool × KS × BS} (h : KOk s.2.1 m) : KOk (k_end T m s).2.1 m := by
  have h1 : KOk (k_next T m s.2.1) m := k_next_ok h
  unfold k_end
  split
  · split <;> exact h1
  · exact h
theorem k_stmt_ok {T : Nat → Int32} {m : Nat} {S : KS} {B : BS} (h : KOk S m) : KOk (k_stmt T m S B).2.1 m := by
  unfold k_stmt
  split
  · exact k_end_ok (k_drv_ok h)
  · split
    · exact k_end_ok (k_rdr_ok h)
    · split
      · exact k_end_ok (k_pen_ok h)
      · exact h
set_option maxRecDepth 100000 in
set_option maxHeartbeats 4000000 in
theorem cn_X7_isWord {K : KX} {n : Nat} {h : MH} {x z : Nat} {T : Nat → Int32} {m : Nat} {S : KS} (t : Tx h x T m) (r : Rd h z S) (ok : KOk S m) (hx : x + 2 ≤ z ∨ z + 2 ≤ x) {q : Nat} (hq : q < 3) : Con K mX7_isWord [.ref z, .ref x, .ref (ks K q)] 0 0 n h (Ret (some (.int (bI (k_isw T m S q)))) n h) := by
  refine Con.of (by decide +kernel) (Nat.le_of_ble_eq_true rfl) ?_
  have t9 := t
  have r9 := r
  obtain ⟨t0, t1, t2⟩ := t
  obtain ⟨r0, r1⟩ := r
  obtain ⟨ok1, ok2⟩ := id ok
  have hs := sw_le q hq
  have loop : ∀ (f : Nat) (k : Nat), k + f = swL.getD q 0 → k_isw T m S q = !i_any (fun k => !decide (k_at T m (kst S + k) = (swB.getD q []).getD k 0)) f k → GG (K, mX7_isWord, 0, 0, Ret (some (.int (bI (k_isw T m S q)))) n h) 0 0 28 [(3, .int (nI k)), (0, .ref z), (1, .ref x), (2, .ref (ks K q))] [] n h := by
    intro f
    induction f with
    | zero =>
      intro k hk hw
      refine mj_iload_n 0 dX7_isWord_28 rfl ?_
      refine mj_aload_n 3 dX7_isWord_29 rfl ?_
      refine mj_cK1 [] dX7_isWord_30 cwJ0_length_8abf5 lkX7_134 hq rfl rfl rfl (cn_J0_length_8abf5 hq) ⟨Nat.le_of_ble_eq_true rfl, Nat.le_of_ble_eq_true rfl, Nat.le_of_ble_eq_true rfl, Nat.le_of_ble_eq_true rfl, Nat.le_of_ble_eq_true rfl⟩ (fun h' e' => ?_)
      subst e'
      refine mj_icmp_ge 62 dX7_isWord_33 (by decide) (fun c_33 => ?_) (fun c_33 => ?_)
      · refine mj_iconst (v := 1) dX7_isWord_62 rfl ?_
        exact mj_zret dX7_isWord_63 rfl (by first | exact Or.inl rfl | exact Or.inr rfl) (Nat.le_of_ble_eq_true rfl) (Nat.le_of_ble_eq_true rfl) ⟨(by rw [hw]; rfl), rfl, rfl⟩
      · exact absurd (nI_le (by omega) (by omega)) c_33
    | succ f ih =>
      intro k hk hw
      refine mj_iload_n 0 dX7_isWord_28 rfl ?_
      refine mj_aload_n 3 dX7_isWord_29 rfl ?_
      refine mj_cK1 [] dX7_isWord_30 cwJ0_length_8abf5 lkX7_134 hq rfl rfl rfl (cn_J0_length_8abf5 hq) ⟨Nat.le_of_ble_eq_true rfl, Nat.le_of_ble_eq_true rfl, Nat.le_of_ble_eq_true rfl, Nat.le_of_ble_eq_true rfl, Nat.le_of_ble_eq_true rfl⟩ (fun h' e' => ?_)
      subst e'
      refine mj_icmp_ge 62 dX7_isWord_33 (by decide) (fun c_33 => ?_) (fun c_33 => ?_)
      · exact absurd c_33 (nI_ge (by omega) (by omega))
      · refine mj_aload_n 2 dX7_isWord_36 rfl ?_
        refine mj_aload_n 1 dX7_isWord_37 rfl ?_
        refine mj_getf dX7_isWord_38 fgX7_131 (by repeat (first | assumption | exact mup_s _ _ _ | rw [mup_n _ _ (by omega)])) rfl ?_
        refine mj_iload_n 0 dX7_isWord_41 rfl ?_
        refine mj_iadd dX7_isWord_42 ?_
        refine mj_eq (nI_add _ _) ?_
        refine mj_cV1 [_] (RX8, TX8, 2) dX7_isWord_43 cwX8_byteAt lkX7_140 (t9.1) rfl rfl rfl rfl (cn_X8_byteAt t9 (j := kst S + k) (by omega)) ⟨Nat.le_of_ble_eq_true rfl, Nat.le_of_ble_eq_true rfl, Nat.le_of_ble_eq_true rfl, Nat.le_of_ble_eq_true rfl, Nat.le_of_ble_eq_true rfl⟩ (fun h' e' => ?_)
        subst e'
        refine mj_aload_n 3 dX7_isWord_46 rfl ?_
        refine mj_iload_n 0 dX7_isWord_47 rfl ?_
        refine mj_cK1 [_] dX7_isWord_48 cwJ0_charAt_5068e lkX7_146 hq rfl rfl rfl (cn_J0_charAt_5068e hq (j := k) (by omega)) ⟨Nat.le_of_ble_eq_true rfl, Nat.le_of_ble_eq_true rfl, Nat.le_of_ble_eq_true rfl, Nat.le_of_ble_eq_true rfl, Nat.le_of_ble_eq_true rfl⟩ (fun h' e' => ?_)
        subst e'
        refine mj_icmp_eq 56 dX7_isWord_51 (by decide) (fun c_51 => ?_) (fun c_51 => ?_)
        · refine mj_iinc (ls' := [(3, _), (0, _), (1, _), (2, _)]) 0 dX7_isWord_56 rfl (nI_s _) (Nat.le_of_ble_eq_true rfl) rfl ?_
          refine mj_goto 28 dX7_isWord_59 (by decide) ?_
          exact mj_ls [0, 1, 2, 3] rfl (ih (k + 1) (by omega) (by rw [hw]; simp only [i_any, c_51]; rfl))
        · refine mj_iconst (v := 0) dX7_isWord_54 rfl ?_
          exact mj_zret dX7_isWord_55 rfl (by first | exact Or.inl rfl | exact Or.inr rfl) (Nat.le_of_ble_eq_true rfl) (Nat.le_of_ble_eq_true rfl) ⟨(by rw [hw]; simp only [i_any, c_51]; rfl), rfl, rfl⟩
  refine mj_aload_n 0 dX7_isWord_0 rfl ?_
  refine mj_getf dX7_isWord_1 fgX7_34 (by repeat (first | assumption | exact mup_s _ _ _ | rw [mup_n _ _ (by omega)])) rfl ?_
  refine mj_iconst (v := 1) dX7_isWord_4 rfl ?_
  refine mj_icmp_ne 24 dX7_isWord_5 (by decide) (fun c_5 => ?_) (fun c_5 => ?_)
  · refine mj_iconst (v := 0) dX7_isWord_24 rfl ?_
    exact mj_zret dX7_isWord_25 rfl (by first | exact Or.inl rfl | exact Or.inr rfl) (Nat.le_of_ble_eq_true rfl) (Nat.le_of_ble_eq_true rfl) ⟨(by unfold k_isw; first | (rw [show decide (kkd S = 1) = false from decide_eq_false c_5]; rfl) | (rw [decide_eq_false z1, Bool.and_false]; rfl)), rfl, rfl⟩
  · refine mj_aload_n 0 dX7_isWord_8 rfl ?_
    refine mj_getf dX7_isWord_9 fgX7_27 (by repeat (first | assumption | exact mup_s _ _ _ | rw [mup_n _ _ (by omega)])) rfl ?_
    refine mj_aload_n 0 dX7_isWord_12 rfl ?_
    refine mj_getf dX7_isWord_13 fgX7_131 (by repeat (first | assumption | exact mup_s _ _ _ | rw [mup_n _ _ (by omega)])) rfl ?_
    refine mj_isub dX7_isWord_16 ?_
    refine mj_eq (pk_sub ok1) ?_
    refine mj_aload_n 2 dX7_isWord_17 rfl ?_
    refine mj_cK1 [] dX7_isWord_18 cwJ0_length_8abf5 lkX7_134 hq rfl rfl rfl (cn_J0_length_8abf5 hq) ⟨Nat.le_of_ble_eq_true rfl, Nat.le_of_ble_eq_true rfl, Nat.le_of_ble_eq_true rfl, Nat.le_of_ble_eq_true rfl, Nat.le_of_ble_eq_true rfl⟩ (fun h' e' => ?_)
    subst e'
    refine mj_icmp_eq 26 dX7_isWord_21 (by decide) (fun c_21 => ?_) (fun c_21 => ?_)
    · have z1 := (nI_inj (by omega) (by omega)).mp c_21
      refine mj_iconst (v := 0) dX7_isWord_26 rfl ?_
      refine mj_istore_n (ls' := [(3, _), (0, _), (1, _), (2, _)]) dX7_isWord_27 (Nat.le_of_ble_eq_true rfl) rfl ?_
      exact mj_ls [0, 1, 2, 3] rfl (loop (swL.getD q 0) 0 (by omega) (by unfold k_isw; rw [decide_eq_true c_5, decide_eq_true z1]; rfl))
    · have z1 : ¬ _ := fun z => c_21 ((nI_inj (by omega) (by omega)).mpr z)
      refine mj_iconst (v := 0) dX7_isWord_24 rfl ?_
      exact mj_zret dX7_isWord_25 rfl (by first | exact Or.inl rfl | exact Or.inr rfl) (Nat.le_of_ble_eq_true rfl) (Nat.le_of_ble_eq_true rfl) ⟨(by unfold k_isw; first | (rw [show decide (kkd S = 1) = false from decide_eq_false c_5]; rfl) | (rw [decide_eq_false z1, Bool.and_false]; rfl)), rfl, rfl⟩
set_option maxRecDepth 100000 in
set_option maxHeartbeats 4000000 in
theorem cn_X7_readNumbers {K : KX} {n : Nat} {h : MH} {x z : Nat} {T : Nat → Int32} {m : Nat} {S : KS} (t : Tx h x T m) (r : Rd h z S) (ok : KOk S m) (hx : x + 2 ≤ z ∨ z + 2 ≤ x) {ql qh L : Nat} (hql : ql < 6) (hqh : qh < 6) (hL1 : (saV ql).length = L) (hL2 : (saV qh).length = L) (hL : L ≤ 8) : Con K mX7_readNumbers [.ref z, .ref x, .ref (kt K ql), .ref (kt K qh)] 0 0 n h (RetP (some (.int (bI (k_nums T m ql qh L 0 S).1))) n (fun h' => Rd h' z (k_nums T m ql qh L 0 S).2 ∧ Off z (z + 2) h h')) := by
  refine Con.of (by decide +kernel) (Nat.le_of_ble_eq_true rfl) ?_
  have loop : ∀ (f : Nat) (k : Nat) (S1 : KS) (h1 : MH), k + f = L → k_nums T m ql qh L 0 S = k_nums T m ql qh f k S1 → Rd h1 z S1 → KOk S1 m → Off z (z + 2) h h1 → GG (K, mX7_readNumbers, 0, 0, RetP (some (.int (bI (k_nums T m ql qh L 0 S).1))) n (fun h' => Rd h' z (k_nums T m ql qh L 0 S).2 ∧ Off z (z + 2) h h')) 0 0 3 [(4, .int (nI k)), (0, .ref z), (1, .ref x), (2, .ref (kt K ql)), (3, .ref (kt K qh))] [] n h1 := by
    intro f
    induction f with
    | zero =>
      intro k S1 h1 hk hw r9 ok o
      refine mj_iload 0 dX7_readNumbers_3 rfl ?_
      refine mj_aload_n 3 dX7_readNumbers_5 rfl ?_
      refine mj_stlen hql (v := nI L) (by rw [hL1]; rfl) dX7_readNumbers_6 ?_
      refine mj_icmp_ge 87 dX7_readNumbers_7 (by decide) (fun c_7 => ?_) (fun c_7 => ?_)
      · refine mj_iconst (v := 1) dX7_readNumbers_87 rfl ?_
        exact mj_zret dX7_readNumbers_88 rfl (by first | exact Or.inl rfl | exact Or.inr rfl) (Nat.le_of_ble_eq_true rfl) (Nat.le_of_ble_eq_true rfl) ⟨(by rw [hw]; rfl), rfl, ⟨by rw [hw]; exact r9, o⟩⟩
      · exact absurd (nI_le (by omega) (by omega)) c_7
    | succ f ih =>
      intro k S1 h1 hk hw r9 ok o
      have t9 := t.off o (by omega)
      obtain ⟨r0, r1⟩ := id r9
      obtain ⟨t0, t1, t2⟩ := id t9
      refine mj_iload 0 dX7_readNumbers_3 rfl ?_
      refine mj_aload_n 3 dX7_readNumbers_5 rfl ?_
      refine mj_stlen hql (v := nI L) (by rw [hL1]; rfl) dX7_readNumbers_6 ?_
      refine mj_icmp_ge 87 dX7_readNumbers_7 (by decide) (fun c_7 => ?_) (fun c_7 => ?_)
      · exact absurd c_7 (nI_ge (by omega) (by omega))
      · refine mj_iload 0 dX7_readNumbers_10 rfl ?_
        refine mj_aload_n 4 dX7_readNumbers_12 rfl ?_
        refine mj_stlen hqh (v := nI L) (by rw [hL2]; rfl) dX7_readNumbers_13 ?_
        refine mj_icmp_ge 87 dX7_readNumbers_14 (by decide) (fun c_14 => ?_) (fun c_14 => ?_)
        · exact absurd c_14 (nI_ge (by omega) (by omega))
        · refine mj_iload 0 dX7_readNumbers_17 rfl ?_
          refine mj_aload_n 1 dX7_readNumbers_19 rfl ?_
          refine mj_getf dX7_readNumbers_20 fgX7_9 (by repeat (first | assumption | exact mup_s _ _ _ | rw [mup_n _ _ (by omega)])) rfl ?_
          refine mj_alen r1 (show 0 < 7 by omega) (v := nI 8) rfl dX7_readNumbers_23 ?_
          refine mj_icmp_ge 87 dX7_readNumbers_24 (by decide) (fun c_24 => ?_) (fun c_24 => ?_)
          · exact absurd c_24 (nI_ge (show k < 8 by omega) (by decide))
          · refine mj_aload_n 1 dX7_readNumbers_27 rfl ?_
            refine mj_aload_n 2 dX7_readNumbers_28 rfl ?_
            refine mj_cV0 [_] (RX7, TX7, 7) dX7_readNumbers_29 cwX7_nextToken lkX7_30 r0 rfl rfl rfl rfl (cn_X7_nextToken t9 r9 ok.2 hx) ⟨Nat.le_of_ble_eq_true rfl, Nat.le_of_ble_eq_true rfl, Nat.le_of_ble_eq_true rfl, Nat.le_of_ble_eq_true rfl, Nat.le_of_ble_eq_true rfl⟩ (fun h' e' => ?_)
            obtain ⟨r8, o8⟩ := e'
            have ok8 := k_next_ok (T := T) ok
            have t8 := t9.off o8 (by omega)
            obtain ⟨r80, r81⟩ := id r8
            refine mj_aload_n 1 dX7_readNumbers_32 rfl ?_
            refine mj_getf dX7_readNumbers_33 fgX7_34 (by repeat (first | assumption | exact mup_s _ _ _ | rw [mup_n _ _ (by omega)])) rfl ?_
            refine mj_iconst (v := 2) dX7_readNumbers_36 rfl ?_
            refine mj_icmp_eq 46 dX7_readNumbers_37 (by decide) (fun c_37 => ?_) (fun c_37 => ?_)
            · refine mj_aload_n 1 dX7_readNumbers_46 rfl ?_
              refine mj_getf dX7_readNumbers_47 fgX7_124 (by repeat (first | assumption | exact mup_s _ _ _ | rw [mup_n _ _ (by omega)])) rfl ?_
              refine mj_aload_n 3 dX7_readNumbers_50 rfl ?_
              refine mj_iload 0 dX7_readNumbers_51 rfl ?_
              refine mj_stld (q := ql) hql (ixn (by omega)) (by omega) dX7_readNumbers_53 ?_
              refine mj_aload_n 4 dX7_readNumbers_54 rfl ?_
              refine mj_iload 0 dX7_readNumbers_55 rfl ?_
              refine mj_stld (q := qh) hqh (ixn (by omega)) (by omega) dX7_readNumbers_57 ?_
              refine mj_cS1 [_, _, _] dX7_readNumbers_58 cwX10_isWithin lkX7_127 rfl (cn_X10_isWithin _ _ _) ⟨Nat.le_of_ble_eq_true rfl, Nat.le_of_ble_eq_true rfl, Nat.le_of_ble_eq_true rfl, Nat.le_of_ble_eq_true rfl, Nat.le_of_ble_eq_true rfl⟩ (fun h' e' => ?_)
              subst e'
              refine mj_if_ne 70 dX7_readNumbers_61 (by decide) (fun c_61 => ?_) (fun c_61 => ?_)
              · have z1 := bI_n0.mp c_61
                refine mj_aload_n 1 dX7_readNumbers_70 rfl ?_
                refine mj_getf dX7_readNumbers_71 fgX7_9 (by repeat (first | assumption | exact mup_s _ _ _ | rw [mup_n _ _ (by omega)])) rfl ?_
                refine mj_iload 0 dX7_readNumbers_74 rfl ?_
                refine mj_aload_n 1 dX7_readNumbers_76 rfl ?_
                refine mj_getf dX7_readNumbers_77 fgX7_124 (by repeat (first | assumption | exact mup_s _ _ _ | rw [mup_n _ _ (by omega)])) rfl ?_
                refine mj_iast (by repeat (first | assumption | exact mup_s _ _ _ | rw [mup_n _ _ (by omega)])) (by first | assumption | rfl | exact ixn (by omega)) (by first | assumption | decide | omega) dX7_readNumbers_80 ?_
                refine mj_iinc (ls' := [(4, _), (0, _), (1, _), (2, _), (3, _)]) 0 dX7_readNumbers_81 rfl (nI_s _) (Nat.le_of_ble_eq_true rfl) rfl ?_
                refine mj_goto 3 dX7_readNumbers_84 (by decide) ?_
                exact mj_ls [0, 1, 2, 3, 4] rfl (ih (k + 1) (k_setV (k_next T m S1) k (kva (k_next T m S1))) _ (by omega) (by rw [hw]; conv => lhs; unfold k_nums; rw [if_neg (fun z => z c_37), if_pos z1]) ⟨(by repeat (first | assumption | exact mup_s _ _ _ | rw [mup_n _ _ (by omega)])), (by repeat (first | assumption | exact mup_s _ _ _ | rw [mup_n _ _ (by omega)]))⟩ ok8 ((o.tr o8).m _ (by omega) (by omega)))
              · have z1 := bI_0.mp c_61
                refine mj_aload_n 1 dX7_readNumbers_64 rfl ?_
                refine mj_iconst (v := 2) dX7_readNumbers_65 rfl ?_
                refine mj_cV1 [_] (RX7, TX7, 7) dX7_readNumbers_66 cwX7_fail lkX7_60 r80 rfl rfl rfl rfl (cn_X7_fail r8) ⟨Nat.le_of_ble_eq_true rfl, Nat.le_of_ble_eq_true rfl, Nat.le_of_ble_eq_true rfl, Nat.le_of_ble_eq_true rfl, Nat.le_of_ble_eq_true rfl⟩ (fun h' e' => ?_)
                obtain ⟨r7, o7⟩ := e'
                exact mj_zret dX7_readNumbers_69 rfl (Or.inl rfl) (Nat.le_of_ble_eq_true rfl) (Nat.le_of_ble_eq_true rfl) ⟨by rw [hw]; unfold k_nums; rw [if_neg (fun z => z c_37), if_neg (by rw [z1]; decide)]; rfl, rfl, by rw [hw]; unfold k_nums; rw [if_neg (fun z => z c_37), if_neg (by rw [z1]; decide)]; exact ⟨r7, (o.tr o8).tr o7⟩⟩
            · refine mj_aload_n 1 dX7_readNumbers_40 rfl ?_
              refine mj_iconst (v := 1) dX7_readNumbers_41 rfl ?_
              refine mj_cV1 [_] (RX7, TX7, 7) dX7_readNumbers_42 cwX7_fail lkX7_60 r80 rfl rfl rfl rfl (cn_X7_fail r8) ⟨Nat.le_of_ble_eq_true rfl, Nat.le_of_ble_eq_true rfl, Nat.le_of_ble_eq_true rfl, Nat.le_of_ble_eq_true rfl, Nat.le_of_ble_eq_true rfl⟩ (fun h' e' => ?_)
              obtain ⟨r7, o7⟩ := e'
              exact mj_zret dX7_readNumbers_45 rfl (Or.inl rfl) (Nat.le_of_ble_eq_true rfl) (Nat.le_of_ble_eq_true rfl) ⟨by rw [hw]; unfold k_nums; rw [if_pos c_37]; rfl, rfl, by rw [hw]; unfold k_nums; rw [if_pos c_37]; exact ⟨r7, (o.tr o8).tr o7⟩⟩
  have t9 := t
  have r9 := r
  obtain ⟨t0, t1, t2⟩ := t
  obtain ⟨r0, r1⟩ := r
  obtain ⟨ok1, ok2⟩ := id ok
  refine mj_iconst (v := 0) dX7_readNumbers_0 rfl ?_
  refine mj_istore (ls' := [(4, _), (0, _), (1, _), (2, _), (3, _)]) dX7_readNumbers_1 (Nat.le_of_ble_eq_true rfl) rfl ?_
  exact mj_ls [0, 1, 2, 3, 4] rfl (loop L 0 S h (by omega) rfl r9 ok Off.rf)
set_option maxRecDepth 100000 in
set_option maxHeartbeats 4000000 in
theorem cn_X7_readDriver {K : KX} {n : Nat} {h : MH} {x z : Nat} {T : Nat → Int32} {m : Nat} {S : KS} (t : Tx h x T m) (r : Rd h z S) (ok : KOk S m) (hx : x + 2 ≤ z ∨ z + 2 ≤ x) {b : Nat} {B : BS} (bd : Bd h b B) (hb1 : b + 71 ≤ z ∨ z + 2 ≤ b) (hb2 : b + 71 ≤ x ∨ x + 2 ≤ b) : Con K mX7_readDriver [.ref z, .ref x, .ref b] 0 0 n h (RetP (some (.int (bI (k_drv T m S B).1))) n (fun h' => Rd h' z (k_drv T m S B).2.1 ∧ Bd h' b (k_drv T m S B).2.2 ∧ Off2 z (z + 2) b (b + 71) h h')) := by
  refine Con.of (by decide +kernel) (Nat.le_of_ble_eq_true rfl) ?_
  have t9 := t
  have r9 := r
  obtain ⟨t0, t1, t2⟩ := t
  obtain ⟨r0, r1⟩ := r
  obtain ⟨ok1, ok2⟩ := id ok
  have bd9 := bd
  have b0 := bd.1
  have b5 := bd.2.2.2.2.2.1
  have b6 := bd.2.2.2.2.2.2
  refine mj_aload_n 2 dX7_readDriver_0 rfl ?_
  refine mj_cV1 [] (RX0, TX0, 5) dX7_readDriver_1 cwX0_hasAllDrivers lkX7_64 (by repeat (first | assumption | exact mup_s _ _ _ | rw [mup_n _ _ (by omega)])) rfl rfl rfl rfl (cn_X0_hasAllDrivers bd9) ⟨Nat.le_of_ble_eq_true rfl, Nat.le_of_ble_eq_true rfl, Nat.le_of_ble_eq_true rfl, Nat.le_of_ble_eq_true rfl, Nat.le_of_ble_eq_true rfl⟩ (fun h' e' => ?_)
  subst e'
  refine mj_if_eq 13 dX7_readDriver_4 (by decide) (fun c_4 => ?_) (fun c_4 => ?_)
  · have z1 : ¬ 8 ≤ bnd B := of_decide_eq_false (bI_0.mp c_4)
    refine mj_aload_n 0 dX7_readDriver_13 rfl ?_
    refine mj_aload_n 1 dX7_readDriver_14 rfl ?_
    refine mj_gets (q := 0) (by decide) dX7_readDriver_15 sgX7_68 ?_
    refine mj_gets (q := 1) (by decide) dX7_readDriver_18 sgX7_71 ?_
    refine mj_cV1 [_, _, _] (RX7, TX7, 7) dX7_readDriver_21 cwX7_readNumbers lkX7_74 r0 rfl rfl rfl rfl (cn_X7_readNumbers t9 r9 ok hx (L := 8) (show 0 < 6 by decide) (show 1 < 6 by decide) rfl rfl (by decide)) ⟨Nat.le_of_ble_eq_true rfl, Nat.le_of_ble_eq_true rfl, Nat.le_of_ble_eq_true rfl, Nat.le_of_ble_eq_true rfl, Nat.le_of_ble_eq_true rfl⟩ (fun h' e' => ?_)
    obtain ⟨r8, o8⟩ := e'
    generalize hN : k_nums T m 0 1 8 0 S = N at *
    have bd8 := bd.off o8 (by omega)
    obtain ⟨r80, r81⟩ := id r8
    have b80 := bd8.1
    refine mj_if_ne 29 dX7_readDriver_24 (by decide) (fun c_24 => ?_) (fun c_24 => ?_)
    · have z2 := bI_n0.mp c_24
      refine mj_aload_n 2 dX7_readDriver_29 rfl ?_
      refine mj_cV1 [] (RX0, TX0, 5) dX7_readDriver_30 cwX0_nextDriver lkX7_78 b80 rfl rfl rfl rfl (cn_X0_nextDriver bd8 (by omega)) ⟨Nat.le_of_ble_eq_true rfl, Nat.le_of_ble_eq_true rfl, Nat.le_of_ble_eq_true rfl, Nat.le_of_ble_eq_true rfl, Nat.le_of_ble_eq_true rfl⟩ (fun h' e' => ?_)
      obtain ⟨bd7, o7⟩ := e'
      have r7 := r8.off o7 (by omega)
      obtain ⟨r70, r71⟩ := id r7
      have D7 := bd7.2.2.2.1 (bnd B) (by omega)
      have D70 := D7.1
      refine mj_astore_n (ls' := [(3, _), (0, _), (1, _), (2, _)]) dX7_readDriver_33 (Nat.le_of_ble_eq_true rfl) rfl ?_
      refine mj_aload_n 0 dX7_readDriver_34 rfl ?_
      refine mj_aload_n 1 dX7_readDriver_35 rfl ?_
      refine mj_getf dX7_readDriver_36 fgX7_9 (by repeat (first | assumption | exact mup_s _ _ _ | rw [mup_n _ _ (by omega)])) rfl ?_
      refine mj_iconst (v := 4) dX7_readDriver_39 rfl ?_
      refine mj_iald (by repeat (first | assumption | exact mup_s _ _ _ | rw [mup_n _ _ (by omega)])) (show (4 : Int32).toInt = ((4 : Nat) : Int) from rfl) (by first | assumption | decide | omega) dX7_readDriver_40 ?_
      refine mj_aload_n 1 dX7_readDriver_41 rfl ?_
      refine mj_getf dX7_readDriver_42 fgX7_9 (by repeat (first | assumption | exact mup_s _ _ _ | rw [mup_n _ _ (by omega)])) rfl ?_
      refine mj_iconst (v := 5) dX7_readDriver_45 rfl ?_
      refine mj_iald (by repeat (first | assumption | exact mup_s _ _ _ | rw [mup_n _ _ (by omega)])) (show (5 : Int32).toInt = ((5 : Nat) : Int) from rfl) (by first | assumption | decide | omega) dX7_readDriver_46 ?_
      refine mj_aload_n 1 dX7_readDriver_47 rfl ?_
      refine mj_getf dX7_readDriver_48 fgX7_9 (by repeat (first | assumption | exact mup_s _ _ _ | rw [mup_n _ _ (by omega)])) rfl ?_
      refine mj_bipush (v := (6)) dX7_readDriver_51 rfl ?_
      refine mj_iald (by repeat (first | assumption | exact mup_s _ _ _ | rw [mup_n _ _ (by omega)])) (show (6 : Int32).toInt = ((6 : Nat) : Int) from rfl) (by first | assumption | decide | omega) dX7_readDriver_53 ?_
      refine mj_aload_n 1 dX7_readDriver_54 rfl ?_
      refine mj_getf dX7_readDriver_55 fgX7_9 (by repeat (first | assumption | exact mup_s _ _ _ | rw [mup_n _ _ (by omega)])) rfl ?_
      refine mj_bipush (v := (7)) dX7_readDriver_58 rfl ?_
      refine mj_iald (by repeat (first | assumption | exact mup_s _ _ _ | rw [mup_n _ _ (by omega)])) (show (7 : Int32).toInt = ((7 : Nat) : Int) from rfl) (by first | assumption | decide | omega) dX7_readDriver_60 ?_
      refine mj_cV0 [_, _, _, _] (RX1, TX1, 8) dX7_readDriver_61 cwX1_begin lkX7_82 D70 rfl rfl rfl rfl (cn_X1_begin D7) ⟨Nat.le_of_ble_eq_true rfl, Nat.le_of_ble_eq_true rfl, Nat.le_of_ble_eq_true rfl, Nat.le_of_ble_eq_true rfl, Nat.le_of_ble_eq_true rfl⟩ (fun h' e' => ?_)
      obtain ⟨D6, o6⟩ := e'
      have r6 := r7.off o6 (by omega)
      obtain ⟨r60, r61⟩ := id r6
      have D60 := D6.1
      have bd6 := bd7.setDT (d := bnd B) (by omega) D6 (o6.up (by omega) (by omega))
      refine mj_aload_n 0 dX7_readDriver_64 rfl ?_
      refine mj_getf dX7_readDriver_65 fgX7_88 (by repeat (first | assumption | exact mup_s _ _ _ | rw [mup_n _ _ (by omega)])) rfl ?_
      refine mj_aload_n 1 dX7_readDriver_68 rfl ?_
      refine mj_getf dX7_readDriver_69 fgX7_9 (by repeat (first | assumption | exact mup_s _ _ _ | rw [mup_n _ _ (by omega)])) rfl ?_
      refine mj_iconst (v := 0) dX7_readDriver_72 rfl ?_
      refine mj_iald (by repeat (first | assumption | exact mup_s _ _ _ | rw [mup_n _ _ (by omega)])) (show (0 : Int32).toInt = ((0 : Nat) : Int) from rfl) (by first | assumption | decide | omega) dX7_readDriver_73 ?_
      refine mj_aload_n 1 dX7_readDriver_74 rfl ?_
      refine mj_getf dX7_readDriver_75 fgX7_9 (by repeat (first | assumption | exact mup_s _ _ _ | rw [mup_n _ _ (by omega)])) rfl ?_
      refine mj_iconst (v := 1) dX7_readDriver_78 rfl ?_
      refine mj_iald (by repeat (first | assumption | exact mup_s _ _ _ | rw [mup_n _ _ (by omega)])) (show (1 : Int32).toInt = ((1 : Nat) : Int) from rfl) (by first | assumption | decide | omega) dX7_readDriver_79 ?_
      refine mj_aload_n 1 dX7_readDriver_80 rfl ?_
      refine mj_getf dX7_readDriver_81 fgX7_9 (by repeat (first | assumption | exact mup_s _ _ _ | rw [mup_n _ _ (by omega)])) rfl ?_
      refine mj_iconst (v := 2) dX7_readDriver_84 rfl ?_
      refine mj_iald (by repeat (first | assumption | exact mup_s _ _ _ | rw [mup_n _ _ (by omega)])) (show (2 : Int32).toInt = ((2 : Nat) : Int) from rfl) (by first | assumption | decide | omega) dX7_readDriver_85 ?_
      refine mj_aload_n 1 dX7_readDriver_86 rfl ?_
      refine mj_getf dX7_readDriver_87 fgX7_9 (by repeat (first | assumption | exact mup_s _ _ _ | rw [mup_n _ _ (by omega)])) rfl ?_
      refine mj_iconst (v := 3) dX7_readDriver_90 rfl ?_
      refine mj_iald (by repeat (first | assumption | exact mup_s _ _ _ | rw [mup_n _ _ (by omega)])) (show (3 : Int32).toInt = ((3 : Nat) : Int) from rfl) (by first | assumption | decide | omega) dX7_readDriver_91 ?_
      refine mj_cV0 [_, _, _, _] (RX6, TX6, 5) dX7_readDriver_92 cwX6_begin lkX7_92 (D6.2.1) rfl rfl rfl rfl (cn_X6_begin D6.2) ⟨Nat.le_of_ble_eq_true rfl, Nat.le_of_ble_eq_true rfl, Nat.le_of_ble_eq_true rfl, Nat.le_of_ble_eq_true rfl, Nat.le_of_ble_eq_true rfl⟩ (fun h' e' => ?_)
      obtain ⟨T5, o5⟩ := e'
      have r5 := r6.off o5 (by omega)
      have bd5 := bd6.setT (d := bnd B) (by omega) (by rw [show b + 4 + 6 * bnd B = b + 3 + 6 * bnd B + 1 by omega]; exact T5) (o5.up (by omega) (by omega))
      refine mj_iconst (v := 1) dX7_readDriver_95 rfl ?_
      exact mj_zret dX7_readDriver_96 rfl (Or.inr rfl) (Nat.le_of_ble_eq_true rfl) (Nat.le_of_ble_eq_true rfl) ⟨by unfold k_drv; rw [if_neg z1, hN, if_pos z2]; rfl, rfl, by unfold k_drv; rw [if_neg z1, hN, if_pos z2]; exact ⟨r5, (by rw [b_setT_twice] at bd5; exact bd5), ((o8.to1.tr (o7.up (by omega) (by omega)).to2).tr (o6.up (by omega) (by omega)).to2).tr (o5.up (by omega) (by omega)).to2⟩⟩
    · have z2 := bI_0.mp c_24
      refine mj_iconst (v := 0) dX7_readDriver_27 rfl ?_
      exact mj_zret dX7_readDriver_28 rfl (Or.inl rfl) (Nat.le_of_ble_eq_true rfl) (Nat.le_of_ble_eq_true rfl) ⟨by unfold k_drv; rw [if_neg z1, hN, if_neg (by rw [z2]; decide)]; rfl, rfl, by unfold k_drv; rw [if_neg z1, hN, if_neg (by rw [z2]; decide)]; exact ⟨r8, bd8, o8.to1⟩⟩
  · have z1 : 8 ≤ bnd B := of_decide_eq_true (bI_n0.mp c_4)
    refine mj_aload_n 0 dX7_readDriver_7 rfl ?_
    refine mj_iconst (v := 3) dX7_readDriver_8 rfl ?_
    refine mj_cV1 [_] (RX7, TX7, 7) dX7_readDriver_9 cwX7_fail lkX7_60 r0 rfl rfl rfl rfl (cn_X7_fail r9) ⟨Nat.le_of_ble_eq_true rfl, Nat.le_of_ble_eq_true rfl, Nat.le_of_ble_eq_true rfl, Nat.le_of_ble_eq_true rfl, Nat.le_of_ble_eq_true rfl⟩ (fun h' e' => ?_)
    obtain ⟨r7, o7⟩ := e'
    exact mj_zret dX7_readDriver_12 rfl (Or.inl rfl) (Nat.le_of_ble_eq_true rfl) (Nat.le_of_ble_eq_true rfl) ⟨by unfold k_drv; rw [if_pos z1]; rfl, rfl, by unfold k_drv; rw [if_pos z1]; exact ⟨r7, bd.off o7 (by omega), o7.to1⟩⟩
set_option maxRecDepth 100000 in
set_option maxHeartbeats 4000000 in
theorem cn_X7_readRider {K : KX} {n : Nat} {h : MH} {x z : Nat} {T : Nat → Int32} {m : Nat} {S : KS} (t : Tx h x T m) (r : Rd h z S) (ok : KOk S m) (hx : x + 2 ≤ z ∨ z + 2 ≤ x) {b : Nat} {B : BS} (bd : Bd h b B) (hb1 : b + 71 ≤ z ∨ z + 2 ≤ b) (hb2 : b + 71 ≤ x ∨ x + 2 ≤ b) : Con K mX7_readRider [.ref z, .ref x, .ref b] 0 0 n h (RetP (some (.int (bI (k_rdr T m S B).1))) n (fun h' => Rd h' z (k_rdr T m S B).2.1 ∧ Bd h' b (k_rdr T m S B).2.2 ∧ Off2 z (z + 2) b (b + 71) h h')) := by
  refine Con.of (by decide +kernel) (Nat.le_of_ble_eq_true rfl) ?_
  have t9 := t
  have r9 := r
  obtain ⟨t0, t1, t2⟩ := t
  obtain ⟨r0, r1⟩ := r
  obtain ⟨ok1, ok2⟩ := id ok
  have bd9 := bd
  have b0 := bd.1
  have b5 := bd.2.2.2.2.2.1
  have b6 := bd.2.2.2.2.2.2
  refine mj_aload_n 2 dX7_readRider_0 rfl ?_
  refine mj_cV1 [] (RX0, TX0, 5) dX7_readRider_1 cwX0_hasAllRiders lkX7_95 (by repeat (first | assumption | exact mup_s _ _ _ | rw [mup_n _ _ (by omega)])) rfl rfl rfl rfl (cn_X0_hasAllRiders bd9) ⟨Nat.le_of_ble_eq_true rfl, Nat.le_of_ble_eq_true rfl, Nat.le_of_ble_eq_true rfl, Nat.le_of_ble_eq_true rfl, Nat.le_of_ble_eq_true rfl⟩ (fun h' e' => ?_)
  subst e'
  refine mj_if_eq 13 dX7_readRider_4 (by decide) (fun c_4 => ?_) (fun c_4 => ?_)
  · have z1 : ¬ 20 ≤ bnr B := of_decide_eq_false (bI_0.mp c_4)
    refine mj_aload_n 0 dX7_readRider_13 rfl ?_
    refine mj_aload_n 1 dX7_readRider_14 rfl ?_
    refine mj_gets (q := 2) (by decide) dX7_readRider_15 sgX7_98 ?_
    refine mj_gets (q := 3) (by decide) dX7_readRider_18 sgX7_101 ?_
    refine mj_cV1 [_, _, _] (RX7, TX7, 7) dX7_readRider_21 cwX7_readNumbers lkX7_74 r0 rfl rfl rfl rfl (cn_X7_readNumbers t9 r9 ok hx (L := 6) (show 2 < 6 by decide) (show 3 < 6 by decide) rfl rfl (by decide)) ⟨Nat.le_of_ble_eq_true rfl, Nat.le_of_ble_eq_true rfl, Nat.le_of_ble_eq_true rfl, Nat.le_of_ble_eq_true rfl, Nat.le_of_ble_eq_true rfl⟩ (fun h' e' => ?_)
    obtain ⟨r8, o8⟩ := e'
    generalize hN : k_nums T m 2 3 6 0 S = N at *
    have bd8 := bd.off o8 (by omega)
    obtain ⟨r80, r81⟩ := id r8
    have b80 := bd8.1
    refine mj_if_ne 29 dX7_readRider_24 (by decide) (fun c_24 => ?_) (fun c_24 => ?_)
    · have z2 := bI_n0.mp c_24
      refine mj_aload_n 2 dX7_readRider_29 rfl ?_
      refine mj_cV1 [] (RX0, TX0, 5) dX7_readRider_30 cwX0_nextRider lkX7_104 b80 rfl rfl rfl rfl (cn_X0_nextRider bd8 (by omega)) ⟨Nat.le_of_ble_eq_true rfl, Nat.le_of_ble_eq_true rfl, Nat.le_of_ble_eq_true rfl, Nat.le_of_ble_eq_true rfl, Nat.le_of_ble_eq_true rfl⟩ (fun h' e' => ?_)
      obtain ⟨bd7, o7⟩ := e'
      have r7 := r8.off o7 (by omega)
      obtain ⟨r70, r71⟩ := id r7
      have X7 := bd7.2.2.2.2.1 (bnr B) (by omega)
      refine mj_astore_n (ls' := [(3, _), (0, _), (1, _), (2, _)]) dX7_readRider_33 (Nat.le_of_ble_eq_true rfl) rfl ?_
      refine mj_aload_n 0 dX7_readRider_34 rfl ?_
      refine mj_aload_n 1 dX7_readRider_35 rfl ?_
      refine mj_getf dX7_readRider_36 fgX7_9 (by repeat (first | assumption | exact mup_s _ _ _ | rw [mup_n _ _ (by omega)])) rfl ?_
      refine mj_iconst (v := 4) dX7_readRider_39 rfl ?_
      refine mj_iald (by repeat (first | assumption | exact mup_s _ _ _ | rw [mup_n _ _ (by omega)])) (show (4 : Int32).toInt = ((4 : Nat) : Int) from rfl) (by first | assumption | decide | omega) dX7_readRider_40 ?_
      refine mj_aload_n 1 dX7_readRider_41 rfl ?_
      refine mj_getf dX7_readRider_42 fgX7_9 (by repeat (first | assumption | exact mup_s _ _ _ | rw [mup_n _ _ (by omega)])) rfl ?_
      refine mj_iconst (v := 5) dX7_readRider_45 rfl ?_
      refine mj_iald (by repeat (first | assumption | exact mup_s _ _ _ | rw [mup_n _ _ (by omega)])) (show (5 : Int32).toInt = ((5 : Nat) : Int) from rfl) (by first | assumption | decide | omega) dX7_readRider_46 ?_
      refine mj_cV0 [_, _] (RX5, TX5, 10) dX7_readRider_47 cwX5_begin lkX7_108 X7 rfl rfl rfl rfl (cn_X5_begin X7) ⟨Nat.le_of_ble_eq_true rfl, Nat.le_of_ble_eq_true rfl, Nat.le_of_ble_eq_true rfl, Nat.le_of_ble_eq_true rfl, Nat.le_of_ble_eq_true rfl⟩ (fun h' e' => ?_)
      obtain ⟨X6, o6⟩ := e'
      have r6 := r7.off o6 (by omega)
      obtain ⟨r60, r61⟩ := id r6
      refine mj_aload_n 0 dX7_readRider_50 rfl ?_
      refine mj_aload_n 1 dX7_readRider_51 rfl ?_
      refine mj_getf dX7_readRider_52 fgX7_9 (by repeat (first | assumption | exact mup_s _ _ _ | rw [mup_n _ _ (by omega)])) rfl ?_
      refine mj_iconst (v := 0) dX7_readRider_55 rfl ?_
      refine mj_iald (by repeat (first | assumption | exact mup_s _ _ _ | rw [mup_n _ _ (by omega)])) (show (0 : Int32).toInt = ((0 : Nat) : Int) from rfl) (by first | assumption | decide | omega) dX7_readRider_56 ?_
      refine mj_aload_n 1 dX7_readRider_57 rfl ?_
      refine mj_getf dX7_readRider_58 fgX7_9 (by repeat (first | assumption | exact mup_s _ _ _ | rw [mup_n _ _ (by omega)])) rfl ?_
      refine mj_iconst (v := 1) dX7_readRider_61 rfl ?_
      refine mj_iald (by repeat (first | assumption | exact mup_s _ _ _ | rw [mup_n _ _ (by omega)])) (show (1 : Int32).toInt = ((1 : Nat) : Int) from rfl) (by first | assumption | decide | omega) dX7_readRider_62 ?_
      refine mj_aload_n 1 dX7_readRider_63 rfl ?_
      refine mj_getf dX7_readRider_64 fgX7_9 (by repeat (first | assumption | exact mup_s _ _ _ | rw [mup_n _ _ (by omega)])) rfl ?_
      refine mj_iconst (v := 2) dX7_readRider_67 rfl ?_
      refine mj_iald (by repeat (first | assumption | exact mup_s _ _ _ | rw [mup_n _ _ (by omega)])) (show (2 : Int32).toInt = ((2 : Nat) : Int) from rfl) (by first | assumption | decide | omega) dX7_readRider_68 ?_
      refine mj_aload_n 1 dX7_readRider_69 rfl ?_
      refine mj_getf dX7_readRider_70 fgX7_9 (by repeat (first | assumption | exact mup_s _ _ _ | rw [mup_n _ _ (by omega)])) rfl ?_
      refine mj_iconst (v := 3) dX7_readRider_73 rfl ?_
      refine mj_iald (by repeat (first | assumption | exact mup_s _ _ _ | rw [mup_n _ _ (by omega)])) (show (3 : Int32).toInt = ((3 : Nat) : Int) from rfl) (by first | assumption | decide | omega) dX7_readRider_74 ?_
      refine mj_cV0 [_, _, _, _] (RX5, TX5, 10) dX7_readRider_75 cwX5_setPlaces lkX7_113 X6 rfl rfl rfl rfl (cn_X5_setPlaces X6) ⟨Nat.le_of_ble_eq_true rfl, Nat.le_of_ble_eq_true rfl, Nat.le_of_ble_eq_true rfl, Nat.le_of_ble_eq_true rfl, Nat.le_of_ble_eq_true rfl⟩ (fun h' e' => ?_)
      obtain ⟨X5, o5⟩ := e'
      have r5 := r6.off o5 (by omega)
      have o65 := o6.tr o5
      have bd5 := bd7.setX (r := bnr B) (by omega) X5 (o65.up (by omega) (by omega))
      refine mj_iconst (v := 1) dX7_readRider_78 rfl ?_
      exact mj_zret dX7_readRider_79 rfl (Or.inr rfl) (Nat.le_of_ble_eq_true rfl) (Nat.le_of_ble_eq_true rfl) ⟨by unfold k_rdr; rw [if_neg z1, hN, if_pos z2]; rfl, rfl, by unfold k_rdr; rw [if_neg z1, hN, if_pos z2]; exact ⟨r5, bd5, (o8.to1.tr (o7.up (by omega) (by omega)).to2).tr (o65.up (by omega) (by omega)).to2⟩⟩
    · have z2 := bI_0.mp c_24
      refine mj_iconst (v := 0) dX7_readRider_27 rfl ?_
      exact mj_zret dX7_readRider_28 rfl (Or.inl rfl) (Nat.le_of_ble_eq_true rfl) (Nat.le_of_ble_eq_true rfl) ⟨by unfold k_rdr; rw [if_neg z1, hN, if_neg (by rw [z2]; decide)]; rfl, rfl, by unfold k_rdr; rw [if_neg z1, hN, if_neg (by rw [z2]; decide)]; exact ⟨r8, bd8, o8.to1⟩⟩
  · have z1 : 20 ≤ bnr B := of_decide_eq_true (bI_n0.mp c_4)
    refine mj_aload_n 0 dX7_readRider_7 rfl ?_
    refine mj_iconst (v := 3) dX7_readRider_8 rfl ?_
    refine mj_cV1 [_] (RX7, TX7, 7) dX7_readRider_9 cwX7_fail lkX7_60 r0 rfl rfl rfl rfl (cn_X7_fail r9) ⟨Nat.le_of_ble_eq_true rfl, Nat.le_of_ble_eq_true rfl, Nat.le_of_ble_eq_true rfl, Nat.le_of_ble_eq_true rfl, Nat.le_of_ble_eq_true rfl⟩ (fun h' e' => ?_)
    obtain ⟨r7, o7⟩ := e'
    exact mj_zret dX7_readRider_12 rfl (Or.inl rfl) (Nat.le_of_ble_eq_true rfl) (Nat.le_of_ble_eq_true rfl) ⟨by unfold k_rdr; rw [if_pos z1]; rfl, rfl, by unfold k_rdr; rw [if_pos z1]; exact ⟨r7, bd.off o7 (by omega), o7.to1⟩⟩
set_option maxRecDepth 100000 in
set_option maxHeartbeats 4000000 in
theorem cn_X7_readPenalty {K : KX} {n : Nat} {h : MH} {x z : Nat} {T : Nat → Int32} {m : Nat} {S : KS} (t : Tx h x T m) (r : Rd h z S) (ok : KOk S m) (hx : x + 2 ≤ z ∨ z + 2 ≤ x) {b : Nat} {B : BS} (bd : Bd h b B) (hb1 : b + 71 ≤ z ∨ z + 2 ≤ b) (hb2 : b + 71 ≤ x ∨ x + 2 ≤ b) : Con K mX7_readPenalty [.ref z, .ref x, .ref b] 0 0 n h (RetP (some (.int (bI (k_pen T m S B).1))) n (fun h' => Rd h' z (k_pen T m S B).2.1 ∧ Bd h' b (k_pen T m S B).2.2 ∧ Off2 z (z + 2) b (b + 71) h h')) := by
  refine Con.of (by decide +kernel) (Nat.le_of_ble_eq_true rfl) ?_
  have t9 := t
  have r9 := r
  obtain ⟨t0, t1, t2⟩ := t
  obtain ⟨r0, r1⟩ := r
  obtain ⟨ok1, ok2⟩ := id ok
  have bd9 := bd
  have b0 := bd.1
  have b5 := bd.2.2.2.2.2.1
  have b6 := bd.2.2.2.2.2.2
  refine mj_aload_n 0 dX7_readPenalty_0 rfl ?_
  refine mj_aload_n 1 dX7_readPenalty_1 rfl ?_
  refine mj_gets (q := 4) (by decide) dX7_readPenalty_2 sgX7_116 ?_
  refine mj_gets (q := 5) (by decide) dX7_readPenalty_5 sgX7_119 ?_
  refine mj_cV1 [_, _, _] (RX7, TX7, 7) dX7_readPenalty_8 cwX7_readNumbers lkX7_74 r0 rfl rfl rfl rfl (cn_X7_readNumbers t9 r9 ok hx (L := 1) (show 4 < 6 by decide) (show 5 < 6 by decide) rfl rfl (by decide)) ⟨Nat.le_of_ble_eq_true rfl, Nat.le_of_ble_eq_true rfl, Nat.le_of_ble_eq_true rfl, Nat.le_of_ble_eq_true rfl, Nat.le_of_ble_eq_true rfl⟩ (fun h' e' => ?_)
  obtain ⟨r8, o8⟩ := e'
  generalize hN : k_nums T m 4 5 1 0 S = N at *
  have bd8 := bd.off o8 (by omega)
  obtain ⟨r80, r81⟩ := id r8
  have b80 := bd8.1
  refine mj_if_ne 16 dX7_readPenalty_11 (by decide) (fun c_11 => ?_) (fun c_11 => ?_)
  · have z2 := bI_n0.mp c_11
    refine mj_aload_n 2 dX7_readPenalty_16 rfl ?_
    refine mj_aload_n 0 dX7_readPenalty_17 rfl ?_
    refine mj_getf dX7_readPenalty_18 fgX7_9 (by repeat (first | assumption | exact mup_s _ _ _ | rw [mup_n _ _ (by omega)])) rfl ?_
    refine mj_iconst (v := 0) dX7_readPenalty_21 rfl ?_
    refine mj_iald (by repeat (first | assumption | exact mup_s _ _ _ | rw [mup_n _ _ (by omega)])) (show (0 : Int32).toInt = ((0 : Nat) : Int) from rfl) (by first | assumption | decide | omega) dX7_readPenalty_22 ?_
    refine mj_putf dX7_readPenalty_23 fgX7_122 (by repeat (first | assumption | exact mup_s _ _ _ | rw [mup_n _ _ (by omega)])) rfl rfl rfl (Nat.le_of_ble_eq_true rfl) rfl ?_
    refine mj_iconst (v := 1) dX7_readPenalty_26 rfl ?_
    exact mj_zret dX7_readPenalty_27 rfl (Or.inr rfl) (Nat.le_of_ble_eq_true rfl) (Nat.le_of_ble_eq_true rfl) ⟨by unfold k_pen; rw [hN, if_pos z2]; rfl, rfl, by unfold k_pen; rw [hN, if_pos z2]; exact ⟨r8.off (Off.m0 (a := b) (b := b + 1) _ (by omega) (by omega)) (by omega), bd8.head (mup_s _ _ _) (Off.m0 _ (by omega) (by omega)) b5 b6, o8.to1.tr (Off.m0 (a := b) (b := b + 71) _ (by omega) (by omega)).to2⟩⟩
  · have z2 := bI_0.mp c_11
    refine mj_iconst (v := 0) dX7_readPenalty_14 rfl ?_
    exact mj_zret dX7_readPenalty_15 rfl (Or.inl rfl) (Nat.le_of_ble_eq_true rfl) (Nat.le_of_ble_eq_true rfl) ⟨by unfold k_pen; rw [hN, if_neg (by rw [z2]; decide)]; rfl, rfl, by unfold k_pen; rw [hN, if_neg (by rw [z2]; decide)]; exact ⟨r8, bd8, o8.to1⟩⟩
theorem k_end_no {T : Nat → Int32} {m : Nat} {s : Bool × KS × BS} (h : s.1 = false) : k_end T m s = s := by
  unfold k_end
  rw [h]
  rfl
theorem k_end_semi {T : Nat → Int32} {m : Nat} {s : Bool × KS × BS} (h : s.1 = true) (h2 : kkd (k_next T m s.2.1) = 3) : k_end T m s = (true, k_next T m s.2.1, s.2.2) := by
  unfold k_end
  rw [if_pos h, if_pos h2]
theorem k_end_bad {T : Nat → Int32} {m : Nat} {s : Bool × KS × BS} (h : s.1 = true) (h2 : ¬ kkd (k_next T m s.2.1) = 3) : k_end T m s = (false, k_fail (k_next T m s.2.1) 1, s.2.2) := by
  unfold k_end
  rw [if_pos h, if_neg h2]
set_option maxRecDepth 100000 in
set_option maxHeartbeats 4000000 in
theorem cn_X7_readStatement {K : KX} {n : Nat} {h : MH} {x z : Nat} {T : Nat → Int32} {m : Nat} {S : KS} (t : Tx h x T m) (r : Rd h z S) (ok : KOk S m) (hx : x + 2 ≤ z ∨ z + 2 ≤ x) {b : Nat} {B : BS} (bd : Bd h b B) (hb1 : b + 71 ≤ z ∨ z + 2 ≤ b) (hb2 : b + 71 ≤ x ∨ x + 2 ≤ b) : Con K mX7_readStatement [.ref z, .ref x, .ref b] 0 0 n h (RetP (some (.int (bI (k_stmt T m S B).1))) n (fun h' => Rd h' z (k_stmt T m S B).2.1 ∧ Bd h' b (k_stmt T m S B).2.2 ∧ Off2 z (z + 2) b (b + 71) h h')) := by
  refine Con.of (by decide +kernel) (Nat.le_of_ble_eq_true rfl) ?_
  have t9 := t
  have r9 := r
  obtain ⟨t0, t1, t2⟩ := t
  obtain ⟨r0, r1⟩ := r
  obtain ⟨ok1, ok2⟩ := id ok
  have bd9 := bd
  have b0 := bd.1
  have b5 := bd.2.2.2.2.2.1
  have b6 := bd.2.2.2.2.2.2
  refine mj_aload_n 0 dX7_readStatement_0 rfl ?_
  refine mj_aload_n 1 dX7_readStatement_1 rfl ?_
  refine mj_ldcS (tx := "driver") (q := 0) (show (("Carpool$SetupReader", _, "driver", 0) : String × Nat × String × Nat) ∈ strW by decide +kernel) dX7_readStatement_2 ?_
  refine mj_cV1 [_, _] (RX7, TX7, 7) dX7_readStatement_4 cwX7_isWord lkX7_43 r0 rfl rfl rfl rfl (cn_X7_isWord t9 r9 ok hx (q := 0) (by decide)) ⟨Nat.le_of_ble_eq_true rfl, Nat.le_of_ble_eq_true rfl, Nat.le_of_ble_eq_true rfl, Nat.le_of_ble_eq_true rfl, Nat.le_of_ble_eq_true rfl⟩ (fun h' e' => ?_)
  subst e'
  refine mj_if_eq 20 dX7_readStatement_7 (by decide) (fun c_7 => ?_) (fun c_7 => ?_)
  · have z1 := bI_0.mp c_7
    refine mj_aload_n 0 dX7_readStatement_20 rfl ?_
    refine mj_aload_n 1 dX7_readStatement_21 rfl ?_
    refine mj_ldcS (tx := "rider") (q := 1) (show (("Carpool$SetupReader", _, "rider", 1) : String × Nat × String × Nat) ∈ strW by decide +kernel) dX7_readStatement_22 ?_
    refine mj_cV1 [_, _] (RX7, TX7, 7) dX7_readStatement_24 cwX7_isWord lkX7_43 r0 rfl rfl rfl rfl (cn_X7_isWord t9 r9 ok hx (q := 1) (by decide)) ⟨Nat.le_of_ble_eq_true rfl, Nat.le_of_ble_eq_true rfl, Nat.le_of_ble_eq_true rfl, Nat.le_of_ble_eq_true rfl, Nat.le_of_ble_eq_true rfl⟩ (fun h' e' => ?_)
    subst e'
    refine mj_if_eq 40 dX7_readStatement_27 (by decide) (fun c_27 => ?_) (fun c_27 => ?_)
    · have z2 := bI_0.mp c_27
      refine mj_aload_n 0 dX7_readStatement_40 rfl ?_
      refine mj_aload_n 1 dX7_readStatement_41 rfl ?_
      refine mj_ldcS (tx := "penalty") (q := 2) (show (("Carpool$SetupReader", _, "penalty", 2) : String × Nat × String × Nat) ∈ strW by decide +kernel) dX7_readStatement_42 ?_
      refine mj_cV1 [_, _] (RX7, TX7, 7) dX7_readStatement_44 cwX7_isWord lkX7_43 r0 rfl rfl rfl rfl (cn_X7_isWord t9 r9 ok hx (q := 2) (by decide)) ⟨Nat.le_of_ble_eq_true rfl, Nat.le_of_ble_eq_true rfl, Nat.le_of_ble_eq_true rfl, Nat.le_of_ble_eq_true rfl, Nat.le_of_ble_eq_true rfl⟩ (fun h' e' => ?_)
      subst e'
      refine mj_if_eq 60 dX7_readStatement_47 (by decide) (fun c_47 => ?_) (fun c_47 => ?_)
      · have z3 := bI_0.mp c_47
        refine mj_aload_n 0 dX7_readStatement_60 rfl ?_
        refine mj_iconst (v := 1) dX7_readStatement_61 rfl ?_
        refine mj_cV1 [_] (RX7, TX7, 7) dX7_readStatement_62 cwX7_fail lkX7_60 r0 rfl rfl rfl rfl (cn_X7_fail r9) ⟨Nat.le_of_ble_eq_true rfl, Nat.le_of_ble_eq_true rfl, Nat.le_of_ble_eq_true rfl, Nat.le_of_ble_eq_true rfl, Nat.le_of_ble_eq_true rfl⟩ (fun h' e' => ?_)
        obtain ⟨r6, o6⟩ := e'
        exact mj_zret dX7_readStatement_65 rfl (Or.inl rfl) (Nat.le_of_ble_eq_true rfl) (Nat.le_of_ble_eq_true rfl) ⟨by unfold k_stmt; rw [if_neg (by rw [z1]; decide), if_neg (by rw [z2]; decide), if_neg (by rw [z3]; decide)]; rfl, rfl, by unfold k_stmt; rw [if_neg (by rw [z1]; decide), if_neg (by rw [z2]; decide), if_neg (by rw [z3]; decide)]; exact ⟨r6, bd9.off o6 (by omega), o6.to1⟩⟩
      · have z3 := bI_n0.mp c_47
        refine mj_aload_n 0 dX7_readStatement_50 rfl ?_
        refine mj_aload_n 1 dX7_readStatement_51 rfl ?_
        refine mj_aload_n 2 dX7_readStatement_52 rfl ?_
        refine mj_cV1 [_, _] (RX7, TX7, 7) dX7_readStatement_53 cwX7_readPenalty lkX7_57 r0 rfl rfl rfl rfl (cn_X7_readPenalty t9 r9 ok hx bd9 hb1 hb2) ⟨Nat.le_of_ble_eq_true rfl, Nat.le_of_ble_eq_true rfl, Nat.le_of_ble_eq_true rfl, Nat.le_of_ble_eq_true rfl, Nat.le_of_ble_eq_true rfl⟩ (fun h' e' => ?_)
        obtain ⟨r8, bd8, o8⟩ := e'
        have ok8 := k_pen_ok (T := T) (B := B) ok
        generalize hN : k_pen T m S B = N at *
        have t8 : Tx h' x T m := t9.at fun q h1 h2 => o8 q (by omega) (by omega)
        obtain ⟨r80, r81⟩ := id r8
        have hst : k_stmt T m S B = k_end T m N := by unfold k_stmt; rw [if_neg (by rw [z1]; decide), if_neg (by rw [z2]; decide), if_pos z3, hN]
        refine mj_istore_n (ls' := [(3, _), (0, _), (1, _), (2, _)]) dX7_readStatement_56 (Nat.le_of_ble_eq_true rfl) rfl ?_
        refine mj_goto 66 dX7_readStatement_57 (by decide) ?_
        refine mj_iload_n 0 dX7_readStatement_66 rfl ?_
        refine mj_if_ne 72 dX7_readStatement_67 (by decide) (fun c_67 => ?_) (fun c_67 => ?_)
        · refine mj_aload_n 1 dX7_readStatement_72 rfl ?_
          refine mj_aload_n 2 dX7_readStatement_73 rfl ?_
          refine mj_cV0 [_] (RX7, TX7, 7) dX7_readStatement_74 cwX7_nextToken lkX7_30 r80 rfl rfl rfl rfl (cn_X7_nextToken t8 r8 ok8.2 hx) ⟨Nat.le_of_ble_eq_true rfl, Nat.le_of_ble_eq_true rfl, Nat.le_of_ble_eq_true rfl, Nat.le_of_ble_eq_true rfl, Nat.le_of_ble_eq_true rfl⟩ (fun h' e' => ?_)
          obtain ⟨r7, o7⟩ := e'
          obtain ⟨r70, r71⟩ := id r7
          refine mj_aload_n 1 dX7_readStatement_77 rfl ?_
          refine mj_getf dX7_readStatement_78 fgX7_34 (by repeat (first | assumption | exact mup_s _ _ _ | rw [mup_n _ _ (by omega)])) rfl ?_
          refine mj_iconst (v := 3) dX7_readStatement_81 rfl ?_
          refine mj_icmp_eq 93 dX7_readStatement_82 (by decide) (fun c_82 => ?_) (fun c_82 => ?_)
          · refine mj_iconst (v := 1) dX7_readStatement_93 rfl ?_
            refine mj_goto 98 dX7_readStatement_94 (by decide) ?_
            exact mj_zret dX7_readStatement_98 rfl (Or.inr rfl) (Nat.le_of_ble_eq_true rfl) (Nat.le_of_ble_eq_true rfl) ⟨by rw [hst, k_end_semi (bI_n0.mp c_67) c_82]; rfl, rfl, by rw [hst, k_end_semi (bI_n0.mp c_67) c_82]; exact ⟨r7, bd8.off o7 (by omega), o8.tr o7.to1⟩⟩
          · refine mj_aload_n 1 dX7_readStatement_85 rfl ?_
            refine mj_iconst (v := 1) dX7_readStatement_86 rfl ?_
            refine mj_cV1 [_] (RX7, TX7, 7) dX7_readStatement_87 cwX7_fail lkX7_60 r70 rfl rfl rfl rfl (cn_X7_fail r7) ⟨Nat.le_of_ble_eq_true rfl, Nat.le_of_ble_eq_true rfl, Nat.le_of_ble_eq_true rfl, Nat.le_of_ble_eq_true rfl, Nat.le_of_ble_eq_true rfl⟩ (fun h' e' => ?_)
            obtain ⟨r6, o6⟩ := e'
            refine mj_if_eq 97 dX7_readStatement_90 (by decide) (fun c_90 => ?_) (fun c_90 => ?_)
            · refine mj_iconst (v := 0) dX7_readStatement_97 rfl ?_
              exact mj_zret dX7_readStatement_98 rfl (Or.inl rfl) (Nat.le_of_ble_eq_true rfl) (Nat.le_of_ble_eq_true rfl) ⟨by rw [hst, k_end_bad (bI_n0.mp c_67) c_82]; rfl, rfl, by rw [hst, k_end_bad (bI_n0.mp c_67) c_82]; exact ⟨r6, (bd8.off o7 (by omega)).off o6 (by omega), (o8.tr o7.to1).tr o6.to1⟩⟩
            · exact absurd rfl c_90
        · refine mj_iconst (v := 0) dX7_readStatement_70 rfl ?_
          exact mj_zret dX7_readStatement_71 rfl (Or.inl rfl) (Nat.le_of_ble_eq_true rfl) (Nat.le_of_ble_eq_true rfl) ⟨by rw [hst, k_end_no (bI_0.mp c_67), c_67], rfl, by rw [hst, k_end_no (bI_0.mp c_67)]; exact ⟨r8, bd8, o8⟩⟩
    · have z2 := bI_n0.mp c_27
      refine mj_aload_n 0 dX7_readStatement_30 rfl ?_
      refine mj_aload_n 1 dX7_readStatement_31 rfl ?_
      refine mj_aload_n 2 dX7_readStatement_32 rfl ?_
      refine mj_cV1 [_, _] (RX7, TX7, 7) dX7_readStatement_33 cwX7_readRider lkX7_52 r0 rfl rfl rfl rfl (cn_X7_readRider t9 r9 ok hx bd9 hb1 hb2) ⟨Nat.le_of_ble_eq_true rfl, Nat.le_of_ble_eq_true rfl, Nat.le_of_ble_eq_true rfl, Nat.le_of_ble_eq_true rfl, Nat.le_of_ble_eq_true rfl⟩ (fun h' e' => ?_)
      obtain ⟨r8, bd8, o8⟩ := e'
      have ok8 := k_rdr_ok (T := T) (B := B) ok
      generalize hN : k_rdr T m S B = N at *
      have t8 : Tx h' x T m := t9.at fun q h1 h2 => o8 q (by omega) (by omega)
      obtain ⟨r80, r81⟩ := id r8
      have hst : k_stmt T m S B = k_end T m N := by unfold k_stmt; rw [if_neg (by rw [z1]; decide), if_pos z2, hN]
      refine mj_istore_n (ls' := [(3, _), (0, _), (1, _), (2, _)]) dX7_readStatement_36 (Nat.le_of_ble_eq_true rfl) rfl ?_
      refine mj_goto 66 dX7_readStatement_37 (by decide) ?_
      refine mj_iload_n 0 dX7_readStatement_66 rfl ?_
      refine mj_if_ne 72 dX7_readStatement_67 (by decide) (fun c_67 => ?_) (fun c_67 => ?_)
      · refine mj_aload_n 1 dX7_readStatement_72 rfl ?_
        refine mj_aload_n 2 dX7_readStatement_73 rfl ?_
        refine mj_cV0 [_] (RX7, TX7, 7) dX7_readStatement_74 cwX7_nextToken lkX7_30 r80 rfl rfl rfl rfl (cn_X7_nextToken t8 r8 ok8.2 hx) ⟨Nat.le_of_ble_eq_true rfl, Nat.le_of_ble_eq_true rfl, Nat.le_of_ble_eq_true rfl, Nat.le_of_ble_eq_true rfl, Nat.le_of_ble_eq_true rfl⟩ (fun h' e' => ?_)
        obtain ⟨r7, o7⟩ := e'
        obtain ⟨r70, r71⟩ := id r7
        refine mj_aload_n 1 dX7_readStatement_77 rfl ?_
        refine mj_getf dX7_readStatement_78 fgX7_34 (by repeat (first | assumption | exact mup_s _ _ _ | rw [mup_n _ _ (by omega)])) rfl ?_
        refine mj_iconst (v := 3) dX7_readStatement_81 rfl ?_
        refine mj_icmp_eq 93 dX7_readStatement_82 (by decide) (fun c_82 => ?_) (fun c_82 => ?_)
        · refine mj_iconst (v := 1) dX7_readStatement_93 rfl ?_
          refine mj_goto 98 dX7_readStatement_94 (by decide) ?_
          exact mj_zret dX7_readStatement_98 rfl (Or.inr rfl) (Nat.le_of_ble_eq_true rfl) (Nat.le_of_ble_eq_true rfl) ⟨by rw [hst, k_end_semi (bI_n0.mp c_67) c_82]; rfl, rfl, by rw [hst, k_end_semi (bI_n0.mp c_67) c_82]; exact ⟨r7, bd8.off o7 (by omega), o8.tr o7.to1⟩⟩
        · refine mj_aload_n 1 dX7_readStatement_85 rfl ?_
          refine mj_iconst (v := 1) dX7_readStatement_86 rfl ?_
          refine mj_cV1 [_] (RX7, TX7, 7) dX7_readStatement_87 cwX7_fail lkX7_60 r70 rfl rfl rfl rfl (cn_X7_fail r7) ⟨Nat.le_of_ble_eq_true rfl, Nat.le_of_ble_eq_true rfl, Nat.le_of_ble_eq_true rfl, Nat.le_of_ble_eq_true rfl, Nat.le_of_ble_eq_true rfl⟩ (fun h' e' => ?_)
          obtain ⟨r6, o6⟩ := e'
          refine mj_if_eq 97 dX7_readStatement_90 (by decide) (fun c_90 => ?_) (fun c_90 => ?_)
          · refine mj_iconst (v := 0) dX7_readStatement_97 rfl ?_
            exact mj_zret dX7_readStatement_98 rfl (Or.inl rfl) (Nat.le_of_ble_eq_true rfl) (Nat.le_of_ble_eq_true rfl) ⟨by rw [hst, k_end_bad (bI_n0.mp c_67) c_82]; rfl, rfl, by rw [hst, k_end_bad (bI_n0.mp c_67) c_82]; exact ⟨r6, (bd8.off o7 (by omega)).off o6 (by omega), (o8.tr o7.to1).tr o6.to1⟩⟩
          · exact absurd rfl c_90
      · refine mj_iconst (v := 0) dX7_readStatement_70 rfl ?_
        exact mj_zret dX7_readStatement_71 rfl (Or.inl rfl) (Nat.le_of_ble_eq_true rfl) (Nat.le_of_ble_eq_true rfl) ⟨by rw [hst, k_end_no (bI_0.mp c_67), c_67], rfl, by rw [hst, k_end_no (bI_0.mp c_67)]; exact ⟨r8, bd8, o8⟩⟩
  · have z1 := bI_n0.mp c_7
    refine mj_aload_n 0 dX7_readStatement_10 rfl ?_
    refine mj_aload_n 1 dX7_readStatement_11 rfl ?_
    refine mj_aload_n 2 dX7_readStatement_12 rfl ?_
    refine mj_cV1 [_, _] (RX7, TX7, 7) dX7_readStatement_13 cwX7_readDriver lkX7_47 r0 rfl rfl rfl rfl (cn_X7_readDriver t9 r9 ok hx bd9 hb1 hb2) ⟨Nat.le_of_ble_eq_true rfl, Nat.le_of_ble_eq_true rfl, Nat.le_of_ble_eq_true rfl, Nat.le_of_ble_eq_true rfl, Nat.le_of_ble_eq_true rfl⟩ (fun h' e' => ?_)
    obtain ⟨r8, bd8, o8⟩ := e'
    have ok8 := k_drv_ok (T := T) (B := B) ok
    generalize hN : k_drv T m S B = N at *
    have t8 : Tx h' x T m := t9.at fun q h1 h2 => o8 q (by omega) (by omega)
    obtain ⟨r80, r81⟩ := id r8
    have hst : k_stmt T m S B = k_end T m N := by unfold k_stmt; rw [if_pos z1, hN]
    refine mj_istore_n (ls' := [(3, _), (0, _), (1, _), (2, _)]) dX7_readStatement_16 (Nat.le_of_ble_eq_true rfl) rfl ?_
    refine mj_goto 66 dX7_readStatement_17 (by decide) ?_
    refine mj_iload_n 0 dX7_readStatement_66 rfl ?_
    refine mj_if_ne 72 dX7_readStatement_67 (by decide) (fun c_67 => ?_) (fun c_67 => ?_)
    · refine mj_aload_n 1 dX7_readStatement_72 rfl ?_
      refine mj_aload_n 2 dX7_readStatement_73 rfl ?_
      refine mj_cV0 [_] (RX7, TX7, 7) dX7_readStatement_74 cwX7_nextToken lkX7_30 r80 rfl rfl rfl rfl (cn_X7_nextToken t8 r8 ok8.2 hx) ⟨Nat.le_of_ble_eq_true rfl, Nat.le_of_ble_eq_true rfl, Nat.le_of_ble_eq_true rfl, Nat.le_of_ble_eq_true rfl, Nat.le_of_ble_eq_true rfl⟩ (fun h' e' => ?_)
      obtain ⟨r7, o7⟩ := e'
      obtain ⟨r70, r71⟩ := id r7
      refine mj_aload_n 1 dX7_readStatement_77 rfl ?_
      refine mj_getf dX7_readStatement_78 fgX7_34 (by repeat (first | assumption | exact mup_s _ _ _ | rw [mup_n _ _ (by omega)])) rfl ?_
      refine mj_iconst (v := 3) dX7_readStatement_81 rfl ?_
      refine mj_icmp_eq 93 dX7_readStatement_82 (by decide) (fun c_82 => ?_) (fun c_82 => ?_)
      · refine mj_iconst (v := 1) dX7_readStatement_93 rfl ?_
        refine mj_goto 98 dX7_readStatement_94 (by decide) ?_
        exact mj_zret dX7_readStatement_98 rfl (Or.inr rfl) (Nat.le_of_ble_eq_true rfl) (Nat.le_of_ble_eq_true rfl) ⟨by rw [hst, k_end_semi (bI_n0.mp c_67) c_82]; rfl, rfl, by rw [hst, k_end_semi (bI_n0.mp c_67) c_82]; exact ⟨r7, bd8.off o7 (by omega), o8.tr o7.to1⟩⟩
      · refine mj_aload_n 1 dX7_readStatement_85 rfl ?_
        refine mj_iconst (v := 1) dX7_readStatement_86 rfl ?_
        refine mj_cV1 [_] (RX7, TX7, 7) dX7_readStatement_87 cwX7_fail lkX7_60 r70 rfl rfl rfl rfl (cn_X7_fail r7) ⟨Nat.le_of_ble_eq_true rfl, Nat.le_of_ble_eq_true rfl, Nat.le_of_ble_eq_true rfl, Nat.le_of_ble_eq_true rfl, Nat.le_of_ble_eq_true rfl⟩ (fun h' e' => ?_)
        obtain ⟨r6, o6⟩ := e'
        refine mj_if_eq 97 dX7_readStatement_90 (by decide) (fun c_90 => ?_) (fun c_90 => ?_)
        · refine mj_iconst (v := 0) dX7_readStatement_97 rfl ?_
          exact mj_zret dX7_readStatement_98 rfl (Or.inl rfl) (Nat.le_of_ble_eq_true rfl) (Nat.le_of_ble_eq_true rfl) ⟨by rw [hst, k_end_bad (bI_n0.mp c_67) c_82]; rfl, rfl, by rw [hst, k_end_bad (bI_n0.mp c_67) c_82]; exact ⟨r6, (bd8.off o7 (by omega)).off o6 (by omega), (o8.tr o7.to1).tr o6.to1⟩⟩
        · exact absurd rfl c_90
    · refine mj_iconst (v := 0) dX7_readStatement_70 rfl ?_
      exact mj_zret dX7_readStatement_71 rfl (Or.inl rfl) (Nat.le_of_ble_eq_true rfl) (Nat.le_of_ble_eq_true rfl) ⟨by rw [hst, k_end_no (bI_0.mp c_67), c_67], rfl, by rw [hst, k_end_no (bI_0.mp c_67)]; exact ⟨r8, bd8, o8⟩⟩
set_option maxRecDepth 100000 in
set_option maxHeartbeats 4000000 in
theorem cn_X7_read {K : KX} {n : Nat} {h : MH} {x z : Nat} {T : Nat → Int32} {m : Nat} {S : KS} (t : Tx h x T m) (r : Rd h z S) (hx : x + 2 ≤ z ∨ z + 2 ≤ x) {b : Nat} {B : BS} (bd : Bd h b B) (hb1 : b + 71 ≤ z ∨ z + 2 ≤ b) (hb2 : b + 71 ≤ x ∨ x + 2 ≤ b) : Con K mX7_read [.ref z, .ref x, .ref b] 0 0 n h (RetP (some (.int (k_read T m S B).1)) n (fun h' => Rd h' z (k_read T m S B).2.1 ∧ Bd h' b (k_read T m S B).2.2 ∧ Off2 z (z + 2) b (b + 71) h h')) := by
  refine Con.of (by decide +kernel) (Nat.le_of_ble_eq_true rfl) ?_
  have loop : ∀ (f : Nat) (k : Nat) (S1 : KS) (B1 : BS) (h1 : MH), k + f = 601 → k_read T m S B = k_loop T m f k S1 B1 → Rd h1 z S1 → KOk S1 m → Bd h1 b B1 → Off2 z (z + 2) b (b + 71) h h1 → GG (K, mX7_read, 0, 0, RetP (some (.int (k_read T m S B).1)) n (fun h' => Rd h' z (k_read T m S B).2.1 ∧ Bd h' b (k_read T m S B).2.2 ∧ Off2 z (z + 2) b (b + 71) h h')) 0 0 29 [(4, .int (nI k)), (3, .int (nI k)), (0, .ref z), (1, .ref x), (2, .ref b)] [] n h1 := by
    intro f
    induction f with
    | zero =>
      intro k S1 B1 h1 hk hw r9 ok bd9 o
      have t9 : Tx h1 x T m := t.at fun q h1 h2 => o q (by omega) (by omega)
      obtain ⟨r0, r1⟩ := id r9
      have b0 := bd9.1
      refine mj_iload 0 dX7_read_29 rfl ?_
      refine mj_sipush (v := (600)) dX7_read_31 rfl ?_
      refine mj_icmp_gt 69 dX7_read_34 (by decide) (fun c_34 => ?_) (fun c_34 => ?_)
      · refine mj_iload_n 1 dX7_read_69 rfl ?_
        exact mj_iret dX7_read_70 rfl (Nat.le_of_ble_eq_true rfl) (Nat.le_of_ble_eq_true rfl) ⟨(by rw [hw]; rfl), rfl, (by rw [hw]; exact ⟨r9, bd9, o⟩)⟩
      · exact absurd (Int32.lt_iff_toInt_lt.mpr (by rw [ixn (by omega)]; show (600 : Int32).toInt < _; have : (600 : Int32).toInt = 600 := rfl; omega)) c_34
    | succ f ih =>
      intro k S1 B1 h1 hk hw r9 ok bd9 o
      have t9 : Tx h1 x T m := t.at fun q h1 h2 => o q (by omega) (by omega)
      obtain ⟨r0, r1⟩ := id r9
      have b0 := bd9.1
      refine mj_iload 0 dX7_read_29 rfl ?_
      refine mj_sipush (v := (600)) dX7_read_31 rfl ?_
      refine mj_icmp_gt 69 dX7_read_34 (by decide) (fun c_34 => ?_) (fun c_34 => ?_)
      · exact absurd (Int32.lt_iff_toInt_lt.mp c_34) (by rw [ixn (by omega)]; show ¬ (600 : Int32).toInt < _; have : (600 : Int32).toInt = 600 := rfl; omega)
      · refine mj_aload_n 2 dX7_read_37 rfl ?_
        refine mj_getf dX7_read_38 fgX7_34 (by repeat (first | assumption | exact mup_s _ _ _ | rw [mup_n _ _ (by omega)])) rfl ?_
        refine mj_if_eq 69 dX7_read_41 (by decide) (fun c_41 => ?_) (fun c_41 => ?_)
        · refine mj_iload_n 1 dX7_read_69 rfl ?_
          exact mj_iret dX7_read_70 rfl (Nat.le_of_ble_eq_true rfl) (Nat.le_of_ble_eq_true rfl) ⟨by rw [hw]; unfold k_loop; rw [if_pos c_41], rfl, by rw [hw]; unfold k_loop; rw [if_pos c_41]; exact ⟨r9, bd9, o⟩⟩
        · refine mj_aload_n 2 dX7_read_44 rfl ?_
          refine mj_aload_n 3 dX7_read_45 rfl ?_
          refine mj_aload_n 4 dX7_read_46 rfl ?_
          refine mj_cV1 [_, _] (RX7, TX7, 7) dX7_read_47 cwX7_readStatement lkX7_37 r0 rfl rfl rfl rfl (cn_X7_readStatement t9 r9 ok hx bd9 hb1 hb2) ⟨Nat.le_of_ble_eq_true rfl, Nat.le_of_ble_eq_true rfl, Nat.le_of_ble_eq_true rfl, Nat.le_of_ble_eq_true rfl, Nat.le_of_ble_eq_true rfl⟩ (fun h' e' => ?_)
          obtain ⟨r8, bd8, o8⟩ := e'
          have ok8 := k_stmt_ok (T := T) (B := B1) ok
          have t8 : Tx h' x T m := t9.at fun q h1 h2 => o8 q (by omega) (by omega)
          obtain ⟨r80, r81⟩ := id r8
          refine mj_if_ne 55 dX7_read_50 (by decide) (fun c_50 => ?_) (fun c_50 => ?_)
          · have z1 := bI_n0.mp c_50
            refine mj_iinc (ls' := [(3, _), (4, _), (0, _), (1, _), (2, _)]) 1 dX7_read_55 rfl (nI_s _) (Nat.le_of_ble_eq_true rfl) rfl ?_
            refine mj_aload_n 2 dX7_read_58 rfl ?_
            refine mj_aload_n 3 dX7_read_59 rfl ?_
            refine mj_cV0 [_] (RX7, TX7, 7) dX7_read_60 cwX7_nextToken lkX7_30 r80 rfl rfl rfl rfl (cn_X7_nextToken t8 r8 ok8.2 hx) ⟨Nat.le_of_ble_eq_true rfl, Nat.le_of_ble_eq_true rfl, Nat.le_of_ble_eq_true rfl, Nat.le_of_ble_eq_true rfl, Nat.le_of_ble_eq_true rfl⟩ (fun h' e' => ?_)
            obtain ⟨r7, o7⟩ := e'
            obtain ⟨r70, r71⟩ := id r7
            refine mj_iinc (ls' := [(4, _), (3, _), (0, _), (1, _), (2, _)]) 1 dX7_read_63 rfl (nI_s _) (Nat.le_of_ble_eq_true rfl) rfl ?_
            refine mj_goto 29 dX7_read_66 (by decide) ?_
            exact mj_ls [0, 1, 2, 3, 4] rfl (ih (k + 1) _ _ _ (by omega) (by rw [hw]; conv => lhs; unfold k_loop; rw [if_neg c_41, if_pos z1]) r7 (k_next_ok ok8) (bd8.off o7 (by omega)) ((o.tr o8).tr o7.to1))
          · have z1 := bI_0.mp c_50
            refine mj_iconst (v := (-1)) dX7_read_53 rfl ?_
            exact mj_iret dX7_read_54 rfl (Nat.le_of_ble_eq_true rfl) (Nat.le_of_ble_eq_true rfl) ⟨by rw [hw]; unfold k_loop; rw [if_neg c_41, if_neg (by rw [z1]; decide)], rfl, by rw [hw]; unfold k_loop; rw [if_neg c_41, if_neg (by rw [z1]; decide)]; exact ⟨r8, bd8, o.tr o8⟩⟩
  have hb1 := hb1
  have t9 := t
  have r9 := r
  obtain ⟨t0, t1, t2⟩ := t
  obtain ⟨r0, r1⟩ := r
  have bd9 := bd
  have b0 := bd.1
  have b5 := bd.2.2.2.2.2.1
  have b6 := bd.2.2.2.2.2.2
  refine mj_aload_n 2 dX7_read_0 rfl ?_
  refine mj_cV0 [] (RX0, TX0, 5) dX7_read_1 cwX0_clear lkX7_19 b0 rfl rfl rfl rfl (cn_X0_clear bd9) ⟨Nat.le_of_ble_eq_true rfl, Nat.le_of_ble_eq_true rfl, Nat.le_of_ble_eq_true rfl, Nat.le_of_ble_eq_true rfl, Nat.le_of_ble_eq_true rfl⟩ (fun h' e' => ?_)
  obtain ⟨bd8, o8⟩ := e'
  have r8 := r9.off o8 (by omega)
  have t8 := t9.off o8 (by omega)
  obtain ⟨r80, r81⟩ := id r8
  have r5 := ((r8.s (S' := (kV S, 0, kfp S, kkd S, kst S, ken S, kva S)) rfl).s (S' := (kV S, 0, -1, kkd S, kst S, ken S, kva S)) rfl).s (S' := (kV S, 0, -1, kkd S, kst S, 0, kva S)) rfl
  have r50 := r5.1
  have o5 : Off z (z + 2) h' _ := ((Off.m0 (c := z) (rdO z (kV S, 0, kfp S, kkd S, kst S, ken S, kva S)) (by omega) (by omega)).m (c := z) (rdO z (kV S, 0, -1, kkd S, kst S, ken S, kva S)) (by omega) (by omega)).m (c := z) (rdO z (kV S, 0, -1, kkd S, kst S, 0, kva S)) (by omega) (by omega)
  refine mj_aload_n 0 dX7_read_4 rfl ?_
  refine mj_iconst (v := 0) dX7_read_5 rfl ?_
  refine mj_putf dX7_read_6 fgX7_24 (by repeat (first | assumption | exact mup_s _ _ _ | rw [mup_n _ _ (by omega)])) rfl rfl rfl (Nat.le_of_ble_eq_true rfl) rfl ?_
  refine mj_aload_n 0 dX7_read_9 rfl ?_
  refine mj_iconst (v := (-1)) dX7_read_10 rfl ?_
  refine mj_putf dX7_read_11 fgX7_15 (by repeat (first | assumption | exact mup_s _ _ _ | rw [mup_n _ _ (by omega)])) rfl rfl rfl (Nat.le_of_ble_eq_true rfl) rfl ?_
  refine mj_aload_n 0 dX7_read_14 rfl ?_
  refine mj_iconst (v := 0) dX7_read_15 rfl ?_
  refine mj_putf dX7_read_16 fgX7_27 (by repeat (first | assumption | exact mup_s _ _ _ | rw [mup_n _ _ (by omega)])) rfl rfl rfl (Nat.le_of_ble_eq_true rfl) rfl ?_
  refine mj_iconst (v := 0) dX7_read_19 rfl ?_
  refine mj_istore_n (ls' := [(3, _), (0, _), (1, _), (2, _)]) dX7_read_20 (Nat.le_of_ble_eq_true rfl) rfl ?_
  refine mj_aload_n 1 dX7_read_21 rfl ?_
  refine mj_aload_n 2 dX7_read_22 rfl ?_
  refine mj_cV0 [_] (RX7, TX7, 7) dX7_read_23 cwX7_nextToken lkX7_30 r50 rfl rfl rfl rfl (cn_X7_nextToken (t8.off o5 (by omega)) r5 (Nat.zero_le _) hx) ⟨Nat.le_of_ble_eq_true rfl, Nat.le_of_ble_eq_true rfl, Nat.le_of_ble_eq_true rfl, Nat.le_of_ble_eq_true rfl, Nat.le_of_ble_eq_true rfl⟩ (fun h' e' => ?_)
  obtain ⟨r7, o7⟩ := e'
  refine mj_iconst (v := 0) dX7_read_26 rfl ?_
  refine mj_istore (ls' := [(4, _), (3, _), (0, _), (1, _), (2, _)]) dX7_read_27 (Nat.le_of_ble_eq_true rfl) rfl ?_
  exact mj_ls [0, 1, 2, 3, 4] rfl (loop 601 0 _ _ _ (by omega) rfl r7 (k_next_ok2 (Nat.zero_le _)) ((bd8.off o5 (by omega)).off o7 (by omega)) ((o8.up (by omega) (by omega)).to2.tr (o5.tr o7).to1))
