def f_e (B : BS) (r d : Nat) : Int32 := if ddo (bD B d) then -1 else s_inr B r d
def f_bd (B : BS) (r : Nat) : Nat → Int32 × Int32
  | 0 => (-1, -1)
  | k + 1 => if ¬ f_e B r k = -1 ∧ ((f_bd B r k).1 = -1 ∨ f_e B r k < (f_bd B r k).2) then (nI k, f_e B r k) else f_bd B r k
def g_e (B : BS) (d r : Nat) : Int32 := if qst (bX B r) = 0 then s_inr B r d else -1
def g_br (B : BS) (d : Nat) : Nat → Int32 × Int32 × Int64
  | 0 => (-1, -1, 0)
  | k + 1 => if ¬ g_e B d k = -1 ∧ ((g_br B d k).1 = -1 ∨ g_e B d k < (g_br B d k).2.1 ∨ (g_e B d k = (g_br B d k).2.1 ∧ (g_br B d k).2.2 < qcr (bX B k))) then (nI k, g_e B d k, qcr (bX B k)) else g_br B d k
def b_repl (B : BS) (d : Nat) : Int32 := if ddo (bD B d) then -1 else (g_br B d (bnr B)).1
theorem g_br_ix (B : BS) (d : Nat) : ∀ k, (g_br B d k).1 = -1 ∨ ∃ r, r < k ∧ (g_br B d k).1 = nI r
  | 0 => Or.inl rfl
  | k + 1 => by
    unfold g_br
    split
    · exact Or.inr ⟨k, by omega, rfl⟩
    · exact (g_br_ix B d k).imp id (fun ⟨r, h1, h2⟩ => ⟨r, by omega, h2⟩)
theorem b_repl_ix (B : BS) (d : Nat) : b_repl B d = -1 ∨ ∃ r, r < bnr B ∧ b_repl B d = nI r := by
  unfold b_repl
  split
  · exact Or.inl rfl
  · exact g_br_ix B d _
/-- what a putting-in leaves as it was -/
theorem Bput.same {B B' : BS} {r d : Nat} (p : Bput B r d B') : bnd B' = bnd B ∧ bnr B' = bnr B ∧ bpe B' = bpe B ∧ bD B' = bD B ∧ (∀ e, rn (bT B e) ≤ rn (bT B' e)) := by
  unfold Bput at p
  split at p
  · subst p; exact ⟨rfl, rfl, rfl, rfl, fun _ => Nat.le_refl _⟩
  · obtain ⟨T, q, rfl⟩ := p
    refine ⟨rfl, rfl, rfl, rfl, fun e => ?_⟩
    show _ ≤ rn (vf_upd (bT B) d T e)
    by_cases h : e = d
    · subst h; rw [vf_s, q.1]; show _ ≤ rn (bT B e) + 2; omega
    · rw [vf_n _ _ h]; exact Nat.le_refl _
def FillR (d : Nat) : Nat → BS → Nat → BS → Prop
  | 0, B, k, B' => k = 0 ∧ B' = B
  | f + 1, B, k, B' => (b_repl B d = -1 ∧ k = 0 ∧ B' = B) ∨ ∃ r B1 k1, r < bnr B ∧ b_repl B d = nI r ∧ Bput B r d B1 ∧ FillR d f B1 k1 B' ∧ k = k1 + 1
set_option maxRecDepth 100000 in
set_option maxHeartbeats 4000000 in
theorem cn_X10_bestDriver_no {K : KX} {n : Nat} {h : MH} {c : Nat} {P : CS} (x : Cp h n c P) {i : Int32} (hi : b_in i 0 (nI (bnr (pB P)) - 1) = false) : Con K mX10_bestDriver [.ref c, .int i] 1 6 n h (Thr "java/lang/IndexOutOfBoundsException" n h) := by
  obtain ⟨ba, sa, Sp, S, H, A, V, Kx, x, xfc, xfp⟩ := x
  obtain ⟨c0, bd, sp, sv, ins, pf, mt, sh, tx, rd, ad, nn⟩ := id x
  have b0 := bd.1
  have b5 := bd.2.2.2.2.2.1
  have b6 := bd.2.2.2.2.2.2
  have adr := x.adr
  refine Con.of (by decide +kernel) (Nat.le_of_ble_eq_true rfl) ?_
  refine mj_aload_n 0 dX10_bestDriver_0 rfl ?_
  refine mj_getf dX10_bestDriver_1 fgX10_12 (by repeat (first | assumption | exact mup_s _ _ _ | rw [mup_n _ _ (by omega)])) rfl ?_
  refine mj_iload_n 1 dX10_bestDriver_4 rfl ?_
  exact mj_tV [_] (RX0, TX0, 5) dX10_bestDriver_5 cwX0_rider lkX10_152 b0 rfl rfl rfl rfl rfl (cn_X0_rider_no bd hi) ⟨Nat.le_of_ble_eq_true rfl, Nat.le_of_ble_eq_true rfl, Nat.le_of_ble_eq_true rfl, Nat.le_of_ble_eq_true rfl, Nat.le_of_ble_eq_true rfl⟩ (fun n9 h9 q1 q2 => ⟨rfl, q1, q2⟩)
set_option maxRecDepth 100000 in
set_option maxHeartbeats 4000000 in
theorem cn_X10_bestDriver {K : KX} {n : Nat} {h : MH} {c : Nat} {P : CS} (x : Cp h n c P) {i : Int32} {r : Nat} (hi : i = nI r) (hr : r < bnr (pB P)) (tk : Tok (pB P)) : Con K mX10_bestDriver [.ref c, .int i] 0 0 n h (RetP (some (.int (f_bd (pB P) r (bnd (pB P))).1)) n (fun h' => CpE h h' n c P)) := by
  refine Con.of (by decide +kernel) (Nat.le_of_ble_eq_true rfl) ?_
  obtain ⟨ba, sa, Sp, S, H, A, V, Kx, x, xfc, xfp⟩ := x
  obtain ⟨c0, bd, sp, sv, ins, pf, mt, sh, tx, rd, ad, nn⟩ := id x
  have b0 := bd.1
  have b5 := bd.2.2.2.2.2.1
  have b6 := bd.2.2.2.2.2.2
  have adr := x.adr
  have loop : ∀ (f : Nat) (k : Nat) (b e : Int32) (h1 : MH), k + f = bnd (pB P) → f_bd (pB P) r k = (b, e) → InE h1 (c + 144) → Off (c + 144) (c + 155) h h1 → GG (K, mX10_bestDriver, 0, 0, RetP (some (.int (f_bd (pB P) r (bnd (pB P))).1)) n (fun h' => CpE h h' n c P)) 0 0 17 [(5, .int (nI k)), (4, .int e), (3, .int b), (2, .ref (ba + 51 + r)), (0, .ref c), (1, .int i)] [] n h1 := by
    intro f
    induction f with
    | zero =>
      intro k b e h1 hk hs i9 o
      have bd9 := bd.off o (by omega)
      have c09 := o.at c0 (by omega)
      have b09 := bd9.1
      refine mj_iload 0 dX10_bestDriver_17 rfl ?_
      refine mj_aload_n 4 dX10_bestDriver_19 rfl ?_
      refine mj_getf dX10_bestDriver_20 fgX10_12 (by repeat (first | assumption | exact mup_s _ _ _ | rw [mup_n _ _ (by omega)])) rfl ?_
      refine mj_getf dX10_bestDriver_23 fgX10_147 (by repeat (first | assumption | exact mup_s _ _ _ | rw [mup_n _ _ (by omega)])) rfl ?_
      refine mj_icmp_ge 95 dX10_bestDriver_26 (by decide) (fun c_26 => ?_) (fun c_26 => ?_)
      · refine mj_iload_n 2 dX10_bestDriver_95 rfl ?_
        exact mj_iret dX10_bestDriver_96 rfl (Nat.le_of_ble_eq_true rfl) (Nat.le_of_ble_eq_true rfl) ⟨(by rw [show bnd (pB P) = k by omega, hs]), rfl, ⟨⟨ba, sa, Sp, S, H, A, V, Kx, x.bd (bd.off o (by omega)) i9 (pf.off o (by omega)) (mt.off o (by omega)) (sh.off o (by omega)) (o.up (by omega) (by omega)).to2, xfc, xfp⟩, o.toC (by omega) (by omega)⟩⟩
      · exact absurd (nI_le (by omega) (by omega)) c_26
    | succ f ih =>
      intro k b e h1 hk hs i9 o
      have bd9 := bd.off o (by omega)
      have c09 := o.at c0 (by omega)
      have b09 := bd9.1
      obtain ⟨de, dt⟩ := bd9.2.2.2.1 k (by omega)
      refine mj_iload 0 dX10_bestDriver_17 rfl ?_
      refine mj_aload_n 4 dX10_bestDriver_19 rfl ?_
      refine mj_getf dX10_bestDriver_20 fgX10_12 (by repeat (first | assumption | exact mup_s _ _ _ | rw [mup_n _ _ (by omega)])) rfl ?_
      refine mj_getf dX10_bestDriver_23 fgX10_147 (by repeat (first | assumption | exact mup_s _ _ _ | rw [mup_n _ _ (by omega)])) rfl ?_
      refine mj_icmp_ge 95 dX10_bestDriver_26 (by decide) (fun c_26 => ?_) (fun c_26 => ?_)
      · exact absurd c_26 (nI_ge (by omega) (by omega))
      · refine mj_aload_n 4 dX10_bestDriver_29 rfl ?_
        refine mj_getf dX10_bestDriver_30 fgX10_12 (by repeat (first | assumption | exact mup_s _ _ _ | rw [mup_n _ _ (by omega)])) rfl ?_
        refine mj_iload 0 dX10_bestDriver_33 rfl ?_
        refine mj_cV1 [_] (RX0, TX0, 5) dX10_bestDriver_35 cwX0_driver lkX10_99 (bd9.1) rfl rfl rfl rfl (cn_X0_driver bd9 (j := k) rfl (by omega)) ⟨Nat.le_of_ble_eq_true rfl, Nat.le_of_ble_eq_true rfl, Nat.le_of_ble_eq_true rfl, Nat.le_of_ble_eq_true rfl, Nat.le_of_ble_eq_true rfl⟩ (fun h' e' => ?_)
        subst h'
        refine mj_astore (ls' := [(6, _), (5, _), (4, _), (3, _), (2, _), (0, _), (1, _)]) dX10_bestDriver_38 (Nat.le_of_ble_eq_true rfl) rfl ?_
        refine mj_aload 0 dX10_bestDriver_40 rfl ?_
        refine mj_getf dX10_bestDriver_42 fgX10_109 (by repeat (first | assumption | exact mup_s _ _ _ | rw [mup_n _ _ (by omega)])) rfl ?_
        refine mj_if_eq 52 dX10_bestDriver_45 (by decide) (fun c_45 => ?_) (fun c_45 => ?_)
        · have z := bI_0.mp c_45
          refine mj_aload_n 5 dX10_bestDriver_52 rfl ?_
          refine mj_getf dX10_bestDriver_53 fgX10_26 (by repeat (first | assumption | exact mup_s _ _ _ | rw [mup_n _ _ (by omega)])) rfl ?_
          refine mj_aload_n 4 dX10_bestDriver_56 rfl ?_
          refine mj_aload 0 dX10_bestDriver_57 rfl ?_
          obtain ⟨U2, upa, uda, ui⟩ := id i9
          refine mj_cV1 [_, _] (RX2, TX2, 4) dX10_bestDriver_59 cwX2_extraInRoute lkX10_193 (ui.1) rfl rfl rfl rfl (cn_X2_extraInRoute i9 bd9 (show r < 20 by omega) (show k < 8 by omega) (tk k (by omega)) (by omega)) ⟨Nat.le_of_ble_eq_true rfl, Nat.le_of_ble_eq_true rfl, Nat.le_of_ble_eq_true rfl, Nat.le_of_ble_eq_true rfl, Nat.le_of_ble_eq_true rfl⟩ (fun h' e' => ?_)
          obtain ⟨i8, o8⟩ := e'
          have fe : f_e (pB P) r k = s_inr (pB P) r k := by unfold f_e; rw [if_neg (by rw [show ddo (bD (pB P) k) = false from z]; decide)]
          refine mj_istore (ls' := [(7, _), (6, _), (5, _), (4, _), (3, _), (2, _), (0, _), (1, _)]) dX10_bestDriver_62 (Nat.le_of_ble_eq_true rfl) rfl ?_
          refine mj_iload 0 dX10_bestDriver_64 rfl ?_
          refine mj_iconst (v := (-1)) dX10_bestDriver_66 rfl ?_
          refine mj_icmp_eq 89 dX10_bestDriver_67 (by decide) (fun c_67 => ?_) (fun c_67 => ?_)
          · refine mj_iinc (ls' := [(5, _), (7, _), (6, _), (4, _), (3, _), (2, _), (0, _), (1, _)]) 2 dX10_bestDriver_89 rfl (nI_s _) (Nat.le_of_ble_eq_true rfl) rfl ?_
            refine mj_goto 17 dX10_bestDriver_92 (by decide) ?_
            first
              | exact mj_ls [0, 3, 4, 5, 6, 7] rfl (ih (k + 1) b e _ (by omega) (by unfold f_bd; rw [hs, fe]; exact if_neg (fun z => z.1 c_67)) i8 (o.tr o8))
              | exact mj_ls [0, 3, 4, 5, 6, 7] rfl (ih (k + 1) b e _ (by omega) (by unfold f_bd; rw [hs, fe]; exact if_neg (fun z => z.1 rfl)) i9 o)
          · refine mj_iload_n 4 dX10_bestDriver_70 rfl ?_
            refine mj_iconst (v := (-1)) dX10_bestDriver_71 rfl ?_
            refine mj_icmp_eq 82 dX10_bestDriver_72 (by decide) (fun c_72 => ?_) (fun c_72 => ?_)
            · refine mj_iload 2 dX10_bestDriver_82 rfl ?_
              refine mj_istore_n (ls' := [(3, _), (7, _), (6, _), (5, _), (4, _), (2, _), (0, _), (1, _)]) dX10_bestDriver_84 (Nat.le_of_ble_eq_true rfl) rfl ?_
              refine mj_iload 1 dX10_bestDriver_85 rfl ?_
              refine mj_istore (ls' := [(4, _), (3, _), (7, _), (6, _), (5, _), (2, _), (0, _), (1, _)]) dX10_bestDriver_87 (Nat.le_of_ble_eq_true rfl) rfl ?_
              refine mj_iinc (ls' := [(5, _), (4, _), (3, _), (7, _), (6, _), (2, _), (0, _), (1, _)]) 4 dX10_bestDriver_89 rfl (nI_s _) (Nat.le_of_ble_eq_true rfl) rfl ?_
              refine mj_goto 17 dX10_bestDriver_92 (by decide) ?_
              exact mj_ls [0, 1, 2, 5, 6, 7] rfl (ih (k + 1) (nI k) _ _ (by omega) (by unfold f_bd; rw [hs, fe]; exact if_pos ⟨c_67, Or.inl c_72⟩) i8 (o.tr o8))
            · refine mj_iload 0 dX10_bestDriver_75 rfl ?_
              refine mj_iload 3 dX10_bestDriver_77 rfl ?_
              refine mj_icmp_ge 89 dX10_bestDriver_79 (by decide) (fun c_79 => ?_) (fun c_79 => ?_)
              · refine mj_iinc (ls' := [(5, _), (7, _), (6, _), (4, _), (3, _), (2, _), (0, _), (1, _)]) 2 dX10_bestDriver_89 rfl (nI_s _) (Nat.le_of_ble_eq_true rfl) rfl ?_
                refine mj_goto 17 dX10_bestDriver_92 (by decide) ?_
                exact mj_ls [0, 3, 4, 5, 6, 7] rfl (ih (k + 1) b e _ (by omega) (by unfold f_bd; rw [hs, fe]; exact if_neg (fun z => z.2.elim c_72 (fun z2 => absurd z2 (Int32.not_lt.mpr c_79)))) i8 (o.tr o8))
              · refine mj_iload 2 dX10_bestDriver_82 rfl ?_
                refine mj_istore_n (ls' := [(3, _), (7, _), (6, _), (5, _), (4, _), (2, _), (0, _), (1, _)]) dX10_bestDriver_84 (Nat.le_of_ble_eq_true rfl) rfl ?_
                refine mj_iload 1 dX10_bestDriver_85 rfl ?_
                refine mj_istore (ls' := [(4, _), (3, _), (7, _), (6, _), (5, _), (2, _), (0, _), (1, _)]) dX10_bestDriver_87 (Nat.le_of_ble_eq_true rfl) rfl ?_
                refine mj_iinc (ls' := [(5, _), (4, _), (3, _), (7, _), (6, _), (2, _), (0, _), (1, _)]) 4 dX10_bestDriver_89 rfl (nI_s _) (Nat.le_of_ble_eq_true rfl) rfl ?_
                refine mj_goto 17 dX10_bestDriver_92 (by decide) ?_
                exact mj_ls [0, 1, 2, 5, 6, 7] rfl (ih (k + 1) (nI k) _ _ (by omega) (by unfold f_bd; rw [hs, fe]; exact if_pos ⟨c_67, Or.inr (Int32.not_le.mp c_79)⟩) i8 (o.tr o8))
        · have z := bI_n0.mp c_45
          have fe : f_e (pB P) r k = -1 := if_pos z
          refine mj_iconst (v := (-1)) dX10_bestDriver_48 rfl ?_
          refine mj_goto 62 dX10_bestDriver_49 (by decide) ?_
          refine mj_istore (ls' := [(7, _), (6, _), (5, _), (4, _), (3, _), (2, _), (0, _), (1, _)]) dX10_bestDriver_62 (Nat.le_of_ble_eq_true rfl) rfl ?_
          refine mj_iload 0 dX10_bestDriver_64 rfl ?_
          refine mj_iconst (v := (-1)) dX10_bestDriver_66 rfl ?_
          refine mj_icmp_eq 89 dX10_bestDriver_67 (by decide) (fun c_67 => ?_) (fun c_67 => ?_)
          · refine mj_iinc (ls' := [(5, _), (7, _), (6, _), (4, _), (3, _), (2, _), (0, _), (1, _)]) 2 dX10_bestDriver_89 rfl (nI_s _) (Nat.le_of_ble_eq_true rfl) rfl ?_
            refine mj_goto 17 dX10_bestDriver_92 (by decide) ?_
            first
              | exact mj_ls [0, 3, 4, 5, 6, 7] rfl (ih (k + 1) b e _ (by omega) (by unfold f_bd; rw [hs, fe]; exact if_neg (fun z => z.1 c_67)) i8 (o.tr o8))
              | exact mj_ls [0, 3, 4, 5, 6, 7] rfl (ih (k + 1) b e _ (by omega) (by unfold f_bd; rw [hs, fe]; exact if_neg (fun z => z.1 rfl)) i9 o)
          · exact absurd rfl c_67
  refine mj_aload_n 0 dX10_bestDriver_0 rfl ?_
  refine mj_getf dX10_bestDriver_1 fgX10_12 (by repeat (first | assumption | exact mup_s _ _ _ | rw [mup_n _ _ (by omega)])) rfl ?_
  refine mj_iload_n 1 dX10_bestDriver_4 rfl ?_
  refine mj_cV1 [_] (RX0, TX0, 5) dX10_bestDriver_5 cwX0_rider lkX10_152 (bd.1) rfl rfl rfl rfl (cn_X0_rider bd (j := r) hi hr) ⟨Nat.le_of_ble_eq_true rfl, Nat.le_of_ble_eq_true rfl, Nat.le_of_ble_eq_true rfl, Nat.le_of_ble_eq_true rfl, Nat.le_of_ble_eq_true rfl⟩ (fun h' e' => ?_)
  subst h'
  refine mj_astore_n (ls' := [(2, _), (0, _), (1, _)]) dX10_bestDriver_8 (Nat.le_of_ble_eq_true rfl) rfl ?_
  refine mj_iconst (v := (-1)) dX10_bestDriver_9 rfl ?_
  refine mj_istore_n (ls' := [(3, _), (2, _), (0, _), (1, _)]) dX10_bestDriver_10 (Nat.le_of_ble_eq_true rfl) rfl ?_
  refine mj_iconst (v := (-1)) dX10_bestDriver_11 rfl ?_
  refine mj_istore (ls' := [(4, _), (3, _), (2, _), (0, _), (1, _)]) dX10_bestDriver_12 (Nat.le_of_ble_eq_true rfl) rfl ?_
  refine mj_iconst (v := 0) dX10_bestDriver_14 rfl ?_
  refine mj_istore (ls' := [(5, _), (4, _), (3, _), (2, _), (0, _), (1, _)]) dX10_bestDriver_15 (Nat.le_of_ble_eq_true rfl) rfl ?_
  exact mj_ls [0, 1, 2, 3, 4, 5] rfl (loop (bnd (pB P)) 0 (-1) (-1) h (by omega) rfl ins Off.rf)
set_option maxRecDepth 100000 in
set_option maxHeartbeats 4000000 in
theorem cn_X10_bestReplacement {K : KX} {n : Nat} {h : MH} {c ba sa : Nat} {B : BS} (c0 : h c = some (cpC c ba sa)) (bd : Bd h ba B) (ins : InE h (c + 144)) (adr : c + 1 ≤ ba ∧ ba + 71 ≤ c + 143) {d : Nat} (hd : d < bnd B) (ht : 2 ≤ rn (bT B d)) : Con K mX10_bestReplacement [.ref c, .ref (ba + 3 + 6 * d)] 0 0 n h (RetP (some (.int (b_repl B d))) n (fun h' => InE h' (c + 144) ∧ Off (c + 144) (c + 155) h h')) := by
  refine Con.of (by decide +kernel) (Nat.le_of_ble_eq_true rfl) ?_
  have b0 := bd.1
  have b5 := bd.2.2.2.2.2.1
  have b6 := bd.2.2.2.2.2.2
  have hd8 : d < 8 := by omega
  obtain ⟨de, dt⟩ := bd.2.2.2.1 d (by omega)
  have dt0 := dt.1
  by_cases hdn : ddo (bD B d) = true
  · skip
    refine mj_aload_n 1 dX10_bestReplacement_0 rfl ?_
    refine mj_getf dX10_bestReplacement_1 fgX10_109 (by repeat (first | assumption | exact mup_s _ _ _ | rw [mup_n _ _ (by omega)])) rfl ?_
    refine mj_if_eq 9 dX10_bestReplacement_4 (by decide) (fun c_4 => ?_) (fun c_4 => ?_)
    · exact absurd (hdn.symm.trans (bI_0.mp c_4)) (by decide)
    · refine mj_iconst (v := (-1)) dX10_bestReplacement_7 rfl ?_
      exact mj_iret dX10_bestReplacement_8 rfl (Nat.le_of_ble_eq_true rfl) (Nat.le_of_ble_eq_true rfl) ⟨(by unfold b_repl; rw [if_pos hdn]), rfl, ⟨ins, Off.rf⟩⟩
  · have hdn : ddo (bD B d) = false := Bool.not_eq_true _ ▸ hdn
    have loop : ∀ (f : Nat) (k : Nat) (b e : Int32) (q : Int64) (h1 : MH), k + f = bnr B → g_br B d k = (b, e, q) → InE h1 (c + 144) → Off (c + 144) (c + 155) h h1 → GG (K, mX10_bestReplacement, 0, 0, RetP (some (.int (b_repl B d))) n (fun h' => InE h' (c + 144) ∧ Off (c + 144) (c + 155) h h')) 0 0 19 [(6, .int (nI k)), (4, .long q), (3, .int e), (2, .int b), (0, .ref c), (1, .ref (ba + 3 + 6 * d))] [] n h1 := by
      intro f
      induction f with
      | zero =>
        intro k b e q h1 hk hs i9 o
        have bd9 := bd.off o (by omega)
        have c09 := o.at c0 (by omega)
        have b09 := bd9.1
        refine mj_iload 0 dX10_bestReplacement_19 rfl ?_
        refine mj_aload_n 4 dX10_bestReplacement_21 rfl ?_
        refine mj_getf dX10_bestReplacement_22 fgX10_12 (by repeat (first | assumption | exact mup_s _ _ _ | rw [mup_n _ _ (by omega)])) rfl ?_
        refine mj_getf dX10_bestReplacement_25 fgX10_150 (by repeat (first | assumption | exact mup_s _ _ _ | rw [mup_n _ _ (by omega)])) rfl ?_
        refine mj_icmp_ge 119 dX10_bestReplacement_28 (by decide) (fun c_28 => ?_) (fun c_28 => ?_)
        · refine mj_iload_n 3 dX10_bestReplacement_119 rfl ?_
          exact mj_iret dX10_bestReplacement_120 rfl (Nat.le_of_ble_eq_true rfl) (Nat.le_of_ble_eq_true rfl) ⟨(by unfold b_repl; rw [if_neg (by rw [hdn]; decide), show bnr B = k by omega, hs]), rfl, ⟨i9, o⟩⟩
        · exact absurd (nI_le (by omega) (by omega)) c_28
      | succ f ih =>
        intro k b e q h1 hk hs i9 o
        have bd9 := bd.off o (by omega)
        have c09 := o.at c0 (by omega)
        have b09 := bd9.1
        have bk := bd9.2.2.2.2.1 k (by omega)
        refine mj_iload 0 dX10_bestReplacement_19 rfl ?_
        refine mj_aload_n 4 dX10_bestReplacement_21 rfl ?_
        refine mj_getf dX10_bestReplacement_22 fgX10_12 (by repeat (first | assumption | exact mup_s _ _ _ | rw [mup_n _ _ (by omega)])) rfl ?_
        refine mj_getf dX10_bestReplacement_25 fgX10_150 (by repeat (first | assumption | exact mup_s _ _ _ | rw [mup_n _ _ (by omega)])) rfl ?_
        refine mj_icmp_ge 119 dX10_bestReplacement_28 (by decide) (fun c_28 => ?_) (fun c_28 => ?_)
        · exact absurd c_28 (nI_ge (by omega) (by omega))
        · refine mj_aload_n 4 dX10_bestReplacement_31 rfl ?_
          refine mj_getf dX10_bestReplacement_32 fgX10_12 (by repeat (first | assumption | exact mup_s _ _ _ | rw [mup_n _ _ (by omega)])) rfl ?_
          refine mj_iload 0 dX10_bestReplacement_35 rfl ?_
          refine mj_cV1 [_] (RX0, TX0, 5) dX10_bestReplacement_37 cwX0_rider lkX10_152 (bd9.1) rfl rfl rfl rfl (cn_X0_rider bd9 (j := k) rfl (by omega)) ⟨Nat.le_of_ble_eq_true rfl, Nat.le_of_ble_eq_true rfl, Nat.le_of_ble_eq_true rfl, Nat.le_of_ble_eq_true rfl, Nat.le_of_ble_eq_true rfl⟩ (fun h' e' => ?_)
          subst h'
          refine mj_astore (ls' := [(7, _), (6, _), (4, _), (3, _), (2, _), (0, _), (1, _)]) dX10_bestReplacement_40 (Nat.le_of_ble_eq_true rfl) rfl ?_
          refine mj_aload 0 dX10_bestReplacement_42 rfl ?_
          refine mj_getf dX10_bestReplacement_44 fgX10_156 (by repeat (first | assumption | exact mup_s _ _ _ | rw [mup_n _ _ (by omega)])) rfl ?_
          refine mj_if_ne 63 dX10_bestReplacement_47 (by decide) (fun c_47 => ?_) (fun c_47 => ?_)
          · have fe : g_e B d k = -1 := if_neg c_47
            refine mj_iconst (v := (-1)) dX10_bestReplacement_63 rfl ?_
            refine mj_istore (ls' := [(8, _), (7, _), (6, _), (4, _), (3, _), (2, _), (0, _), (1, _)]) dX10_bestReplacement_64 (Nat.le_of_ble_eq_true rfl) rfl ?_
            refine mj_iload 0 dX10_bestReplacement_66 rfl ?_
            refine mj_iconst (v := (-1)) dX10_bestReplacement_68 rfl ?_
            refine mj_icmp_eq 113 dX10_bestReplacement_69 (by decide) (fun c_69 => ?_) (fun c_69 => ?_)
            · refine mj_iinc (ls' := [(6, _), (8, _), (7, _), (4, _), (3, _), (2, _), (0, _), (1, _)]) 2 dX10_bestReplacement_113 rfl (nI_s _) (Nat.le_of_ble_eq_true rfl) rfl ?_
              refine mj_goto 19 dX10_bestReplacement_116 (by decide) ?_
              first
                | exact mj_ls [0, 3, 4, 5, 6, 7] rfl (ih (k + 1) b e q _ (by omega) (by unfold g_br; rw [hs, fe]; exact if_neg (fun z => z.1 c_69)) i8 (o.tr o8))
                | exact mj_ls [0, 3, 4, 5, 6, 7] rfl (ih (k + 1) b e q _ (by omega) (by unfold g_br; rw [hs, fe]; exact if_neg (fun z => z.1 rfl)) i9 o)
            · exact absurd rfl c_69
          · refine mj_aload_n 5 dX10_bestReplacement_50 rfl ?_
            refine mj_getf dX10_bestReplacement_51 fgX10_26 (by repeat (first | assumption | exact mup_s _ _ _ | rw [mup_n _ _ (by omega)])) rfl ?_
            refine mj_aload 0 dX10_bestReplacement_54 rfl ?_
            refine mj_aload_n 6 dX10_bestReplacement_56 rfl ?_
            obtain ⟨U2, upa, uda, ui⟩ := id i9
            refine mj_cV1 [_, _] (RX2, TX2, 4) dX10_bestReplacement_57 cwX2_extraInRoute lkX10_193 (ui.1) rfl rfl rfl rfl (cn_X2_extraInRoute i9 bd9 (show k < 20 by omega) hd8 ht (by omega)) ⟨Nat.le_of_ble_eq_true rfl, Nat.le_of_ble_eq_true rfl, Nat.le_of_ble_eq_true rfl, Nat.le_of_ble_eq_true rfl, Nat.le_of_ble_eq_true rfl⟩ (fun h' e' => ?_)
            obtain ⟨i8, o8⟩ := e'
            have fe : g_e B d k = s_inr B k d := if_pos c_47
            have bk := o8.at bk (by omega)
            refine mj_goto 64 dX10_bestReplacement_60 (by decide) ?_
            refine mj_istore (ls' := [(8, _), (7, _), (6, _), (4, _), (3, _), (2, _), (0, _), (1, _)]) dX10_bestReplacement_64 (Nat.le_of_ble_eq_true rfl) rfl ?_
            refine mj_iload 0 dX10_bestReplacement_66 rfl ?_
            refine mj_iconst (v := (-1)) dX10_bestReplacement_68 rfl ?_
            refine mj_icmp_eq 113 dX10_bestReplacement_69 (by decide) (fun c_69 => ?_) (fun c_69 => ?_)
            · refine mj_iinc (ls' := [(6, _), (8, _), (7, _), (4, _), (3, _), (2, _), (0, _), (1, _)]) 2 dX10_bestReplacement_113 rfl (nI_s _) (Nat.le_of_ble_eq_true rfl) rfl ?_
              refine mj_goto 19 dX10_bestReplacement_116 (by decide) ?_
              first
                | exact mj_ls [0, 3, 4, 5, 6, 7] rfl (ih (k + 1) b e q _ (by omega) (by unfold g_br; rw [hs, fe]; exact if_neg (fun z => z.1 c_69)) i8 (o.tr o8))
                | exact mj_ls [0, 3, 4, 5, 6, 7] rfl (ih (k + 1) b e q _ (by omega) (by unfold g_br; rw [hs, fe]; exact if_neg (fun z => z.1 rfl)) i9 o)
            · refine mj_iload_n 5 dX10_bestReplacement_72 rfl ?_
              refine mj_iconst (v := (-1)) dX10_bestReplacement_73 rfl ?_
              refine mj_icmp_eq 100 dX10_bestReplacement_74 (by decide) (fun c_74 => ?_) (fun c_74 => ?_)
              · refine mj_iload 2 dX10_bestReplacement_100 rfl ?_
                refine mj_istore_n (ls' := [(2, _), (8, _), (7, _), (6, _), (4, _), (3, _), (0, _), (1, _)]) dX10_bestReplacement_102 (Nat.le_of_ble_eq_true rfl) rfl ?_
                refine mj_iload 1 dX10_bestReplacement_103 rfl ?_
                refine mj_istore_n (ls' := [(3, _), (2, _), (8, _), (7, _), (6, _), (4, _), (0, _), (1, _)]) dX10_bestReplacement_105 (Nat.le_of_ble_eq_true rfl) rfl ?_
                refine mj_aload 3 dX10_bestReplacement_106 rfl ?_
                refine mj_getf dX10_bestReplacement_108 fgX10_243 (by repeat (first | assumption | exact mup_s _ _ _ | rw [mup_n _ _ (by omega)])) rfl ?_
                refine mj_lstore (ls' := [(4, _), (3, _), (2, _), (8, _), (7, _), (6, _), (0, _), (1, _)]) dX10_bestReplacement_111 (Nat.le_of_ble_eq_true rfl) rfl ?_
                refine mj_iinc (ls' := [(6, _), (4, _), (3, _), (2, _), (8, _), (7, _), (0, _), (1, _)]) 5 dX10_bestReplacement_113 rfl (nI_s _) (Nat.le_of_ble_eq_true rfl) rfl ?_
                refine mj_goto 19 dX10_bestReplacement_116 (by decide) ?_
                exact mj_ls [0, 1, 2, 3, 6, 7] rfl (ih (k + 1) (nI k) _ _ _ (by omega) (by unfold g_br; rw [hs, fe]; exact if_pos ⟨c_69, Or.inl c_74⟩) i8 (o.tr o8))
              · refine mj_iload 0 dX10_bestReplacement_77 rfl ?_
                refine mj_iload_n 4 dX10_bestReplacement_79 rfl ?_
                refine mj_icmp_lt 100 dX10_bestReplacement_80 (by decide) (fun c_80 => ?_) (fun c_80 => ?_)
                · refine mj_iload 2 dX10_bestReplacement_100 rfl ?_
                  refine mj_istore_n (ls' := [(2, _), (8, _), (7, _), (6, _), (4, _), (3, _), (0, _), (1, _)]) dX10_bestReplacement_102 (Nat.le_of_ble_eq_true rfl) rfl ?_
                  refine mj_iload 1 dX10_bestReplacement_103 rfl ?_
                  refine mj_istore_n (ls' := [(3, _), (2, _), (8, _), (7, _), (6, _), (4, _), (0, _), (1, _)]) dX10_bestReplacement_105 (Nat.le_of_ble_eq_true rfl) rfl ?_
                  refine mj_aload 3 dX10_bestReplacement_106 rfl ?_
                  refine mj_getf dX10_bestReplacement_108 fgX10_243 (by repeat (first | assumption | exact mup_s _ _ _ | rw [mup_n _ _ (by omega)])) rfl ?_
                  refine mj_lstore (ls' := [(4, _), (3, _), (2, _), (8, _), (7, _), (6, _), (0, _), (1, _)]) dX10_bestReplacement_111 (Nat.le_of_ble_eq_true rfl) rfl ?_
                  refine mj_iinc (ls' := [(6, _), (4, _), (3, _), (2, _), (8, _), (7, _), (0, _), (1, _)]) 5 dX10_bestReplacement_113 rfl (nI_s _) (Nat.le_of_ble_eq_true rfl) rfl ?_
                  refine mj_goto 19 dX10_bestReplacement_116 (by decide) ?_
                  exact mj_ls [0, 1, 2, 3, 6, 7] rfl (ih (k + 1) (nI k) _ _ _ (by omega) (by unfold g_br; rw [hs, fe]; exact if_pos ⟨c_69, Or.inr (Or.inl c_80)⟩) i8 (o.tr o8))
                · refine mj_iload 0 dX10_bestReplacement_83 rfl ?_
                  refine mj_iload_n 4 dX10_bestReplacement_85 rfl ?_
                  refine mj_icmp_ne 113 dX10_bestReplacement_86 (by decide) (fun c_86 => ?_) (fun c_86 => ?_)
                  · refine mj_iinc (ls' := [(6, _), (8, _), (7, _), (4, _), (3, _), (2, _), (0, _), (1, _)]) 2 dX10_bestReplacement_113 rfl (nI_s _) (Nat.le_of_ble_eq_true rfl) rfl ?_
                    refine mj_goto 19 dX10_bestReplacement_116 (by decide) ?_
                    exact mj_ls [0, 3, 4, 5, 6, 7] rfl (ih (k + 1) b e q _ (by omega) (by unfold g_br; rw [hs, fe]; exact if_neg (fun z => z.2.elim c_74 (fun z => z.elim c_80 (fun z => c_86 z.1)))) i8 (o.tr o8))
                  · refine mj_aload 1 dX10_bestReplacement_89 rfl ?_
                    refine mj_getf dX10_bestReplacement_91 fgX10_243 (by repeat (first | assumption | exact mup_s _ _ _ | rw [mup_n _ _ (by omega)])) rfl ?_
                    refine mj_lload 3 dX10_bestReplacement_94 rfl ?_
                    refine mj_lcmp dX10_bestReplacement_96 ?_
                    refine mj_if_le 113 dX10_bestReplacement_97 (by decide) (fun c_97 => ?_) (fun c_97 => ?_)
                    · have z3 : ¬ q < qcr (bX B k) := fun z => absurd (gc_gt.mpr z) (Int32.not_lt.mpr c_97)
                      refine mj_iinc (ls' := [(6, _), (8, _), (7, _), (4, _), (3, _), (2, _), (0, _), (1, _)]) 2 dX10_bestReplacement_113 rfl (nI_s _) (Nat.le_of_ble_eq_true rfl) rfl ?_
                      refine mj_goto 19 dX10_bestReplacement_116 (by decide) ?_
                      exact mj_ls [0, 3, 4, 5, 6, 7] rfl (ih (k + 1) b e q _ (by omega) (by unfold g_br; rw [hs, fe]; exact if_neg (fun z => z.2.elim c_74 (fun z => z.elim c_80 (fun z => z3 z.2)))) i8 (o.tr o8))
                    · have z3 : q < qcr (bX B k) := gc_gt.mp (Int32.not_le.mp c_97)
                      refine mj_iload 2 dX10_bestReplacement_100 rfl ?_
                      refine mj_istore_n (ls' := [(2, _), (8, _), (7, _), (6, _), (4, _), (3, _), (0, _), (1, _)]) dX10_bestReplacement_102 (Nat.le_of_ble_eq_true rfl) rfl ?_
                      refine mj_iload 1 dX10_bestReplacement_103 rfl ?_
                      refine mj_istore_n (ls' := [(3, _), (2, _), (8, _), (7, _), (6, _), (4, _), (0, _), (1, _)]) dX10_bestReplacement_105 (Nat.le_of_ble_eq_true rfl) rfl ?_
                      refine mj_aload 3 dX10_bestReplacement_106 rfl ?_
                      refine mj_getf dX10_bestReplacement_108 fgX10_243 (by repeat (first | assumption | exact mup_s _ _ _ | rw [mup_n _ _ (by omega)])) rfl ?_
                      refine mj_lstore (ls' := [(4, _), (3, _), (2, _), (8, _), (7, _), (6, _), (0, _), (1, _)]) dX10_bestReplacement_111 (Nat.le_of_ble_eq_true rfl) rfl ?_
                      refine mj_iinc (ls' := [(6, _), (4, _), (3, _), (2, _), (8, _), (7, _), (0, _), (1, _)]) 5 dX10_bestReplacement_113 rfl (nI_s _) (Nat.le_of_ble_eq_true rfl) rfl ?_
                      refine mj_goto 19 dX10_bestReplacement_116 (by decide) ?_
                      exact mj_ls [0, 1, 2, 3, 6, 7] rfl (ih (k + 1) (nI k) _ _ _ (by omega) (by unfold g_br; rw [hs, fe]; exact if_pos ⟨c_69, Or.inr (Or.inr ⟨c_86, z3⟩)⟩) i8 (o.tr o8))
    refine mj_aload_n 1 dX10_bestReplacement_0 rfl ?_
    refine mj_getf dX10_bestReplacement_1 fgX10_109 (by repeat (first | assumption | exact mup_s _ _ _ | rw [mup_n _ _ (by omega)])) rfl ?_
    refine mj_if_eq 9 dX10_bestReplacement_4 (by decide) (fun c_4 => ?_) (fun c_4 => ?_)
    · refine mj_iconst (v := (-1)) dX10_bestReplacement_9 rfl ?_
      refine mj_istore_n (ls' := [(2, _), (0, _), (1, _)]) dX10_bestReplacement_10 (Nat.le_of_ble_eq_true rfl) rfl ?_
      refine mj_iconst (v := (-1)) dX10_bestReplacement_11 rfl ?_
      refine mj_istore_n (ls' := [(3, _), (2, _), (0, _), (1, _)]) dX10_bestReplacement_12 (Nat.le_of_ble_eq_true rfl) rfl ?_
      refine mj_lconst (v := 0) dX10_bestReplacement_13 rfl ?_
      refine mj_lstore (ls' := [(4, _), (3, _), (2, _), (0, _), (1, _)]) dX10_bestReplacement_14 (Nat.le_of_ble_eq_true rfl) rfl ?_
      refine mj_iconst (v := 0) dX10_bestReplacement_16 rfl ?_
      refine mj_istore (ls' := [(6, _), (4, _), (3, _), (2, _), (0, _), (1, _)]) dX10_bestReplacement_17 (Nat.le_of_ble_eq_true rfl) rfl ?_
      exact mj_ls [0, 1, 2, 3, 4, 5] rfl (loop (bnr B) 0 (-1) (-1) 0 h (by omega) rfl ins Off.rf)
    · exact absurd (hdn.symm.trans (bI_n0.mp c_4)) (by decide)
set_option maxRecDepth 100000 in
set_option maxHeartbeats 4000000 in
theorem cn_X10_replacement_no {K : KX} {n : Nat} {h : MH} {c : Nat} {P : CS} (x : Cp h n c P) {i : Int32} (hi : b_in i 0 (nI (bnd (pB P)) - 1) = false) : Con K mX10_replacement [.ref c, .int i] 1 6 n h (Thr "java/lang/IndexOutOfBoundsException" n h) := by
  obtain ⟨ba, sa, Sp, S, H, A, V, Kx, x, xfc, xfp⟩ := x
  obtain ⟨c0, bd, sp, sv, ins, pf, mt, sh, tx, rd, ad, nn⟩ := id x
  have b0 := bd.1
  have b5 := bd.2.2.2.2.2.1
  have b6 := bd.2.2.2.2.2.2
  have adr := x.adr
  refine Con.of (by decide +kernel) (Nat.le_of_ble_eq_true rfl) ?_
  refine mj_aload_n 0 dX10_replacement_0 rfl ?_
  refine mj_aload_n 0 dX10_replacement_1 rfl ?_
  refine mj_getf dX10_replacement_2 fgX10_12 (by repeat (first | assumption | exact mup_s _ _ _ | rw [mup_n _ _ (by omega)])) rfl ?_
  refine mj_iload_n 1 dX10_replacement_5 rfl ?_
  exact mj_tV [_] (RX0, TX0, 5) dX10_replacement_6 cwX0_driver lkX10_99 b0 rfl rfl rfl rfl rfl (cn_X0_driver_no bd hi) ⟨Nat.le_of_ble_eq_true rfl, Nat.le_of_ble_eq_true rfl, Nat.le_of_ble_eq_true rfl, Nat.le_of_ble_eq_true rfl, Nat.le_of_ble_eq_true rfl⟩ (fun n9 h9 q1 q2 => ⟨rfl, q1, q2⟩)
set_option maxRecDepth 100000 in
set_option maxHeartbeats 4000000 in
theorem cn_X10_replacement {K : KX} {n : Nat} {h : MH} {c : Nat} {P : CS} (x : Cp h n c P) {i : Int32} {d : Nat} (hi : i = nI d) (hd : d < bnd (pB P)) (ht : 2 ≤ rn (bT (pB P) d)) : Con K mX10_replacement [.ref c, .int i] 0 0 n h (RetP (some (.int (b_repl (pB P) d))) n (fun h' => CpE h h' n c P)) := by
  obtain ⟨ba, sa, Sp, S, H, A, V, Kx, x, xfc, xfp⟩ := x
  obtain ⟨c0, bd, sp, sv, ins, pf, mt, sh, tx, rd, ad, nn⟩ := id x
  have b0 := bd.1
  have b5 := bd.2.2.2.2.2.1
  have b6 := bd.2.2.2.2.2.2
  have adr := x.adr
  refine Con.of (by decide +kernel) (Nat.le_of_ble_eq_true rfl) ?_
  refine mj_aload_n 0 dX10_replacement_0 rfl ?_
  refine mj_aload_n 0 dX10_replacement_1 rfl ?_
  refine mj_getf dX10_replacement_2 fgX10_12 (by repeat (first | assumption | exact mup_s _ _ _ | rw [mup_n _ _ (by omega)])) rfl ?_
  refine mj_iload_n 1 dX10_replacement_5 rfl ?_
  refine mj_cV1 [_] (RX0, TX0, 5) dX10_replacement_6 cwX0_driver lkX10_99 (bd.1) rfl rfl rfl rfl (cn_X0_driver bd (j := d) hi hd) ⟨Nat.le_of_ble_eq_true rfl, Nat.le_of_ble_eq_true rfl, Nat.le_of_ble_eq_true rfl, Nat.le_of_ble_eq_true rfl, Nat.le_of_ble_eq_true rfl⟩ (fun h' e' => ?_)
  subst h'
  refine mj_cV1 [_] (RX10, TX10, 9) dX10_replacement_9 cwX10_bestReplacement lkX10_250 c0 rfl rfl rfl rfl (cn_X10_bestReplacement c0 bd ins adr hd ht) ⟨Nat.le_of_ble_eq_true rfl, Nat.le_of_ble_eq_true rfl, Nat.le_of_ble_eq_true rfl, Nat.le_of_ble_eq_true rfl, Nat.le_of_ble_eq_true rfl⟩ (fun h' e' => ?_)
  obtain ⟨i8, o8⟩ := e'
  exact mj_iret dX10_replacement_12 rfl (Nat.le_of_ble_eq_true rfl) (Nat.le_of_ble_eq_true rfl) ⟨rfl, rfl, ⟨⟨ba, sa, Sp, S, H, A, V, Kx, x.bd (bd.off o8 (by omega)) i8 (pf.off o8 (by omega)) (mt.off o8 (by omega)) (sh.off o8 (by omega)) (o8.up (by omega) (by omega)).to2, xfc, xfp⟩, o8.toC (by omega) (by omega)⟩⟩
set_option maxRecDepth 100000 in
set_option maxHeartbeats 4000000 in
theorem cn_X10_fill_no {K : KX} {n : Nat} {h : MH} {c : Nat} {P : CS} (x : Cp h n c P) {i : Int32} (hi : b_in i 0 (nI (bnd (pB P)) - 1) = false) : Con K mX10_fill [.ref c, .int i] 1 6 n h (Thr "java/lang/IndexOutOfBoundsException" n h) := by
  obtain ⟨ba, sa, Sp, S, H, A, V, Kx, x, xfc, xfp⟩ := x
  obtain ⟨c0, bd, sp, sv, ins, pf, mt, sh, tx, rd, ad, nn⟩ := id x
  have b0 := bd.1
  have b5 := bd.2.2.2.2.2.1
  have b6 := bd.2.2.2.2.2.2
  have adr := x.adr
  refine Con.of (by decide +kernel) (Nat.le_of_ble_eq_true rfl) ?_
  refine mj_aload_n 0 dX10_fill_0 rfl ?_
  refine mj_getf dX10_fill_1 fgX10_12 (by repeat (first | assumption | exact mup_s _ _ _ | rw [mup_n _ _ (by omega)])) rfl ?_
  refine mj_iload_n 1 dX10_fill_4 rfl ?_
  exact mj_tV [_] (RX0, TX0, 5) dX10_fill_5 cwX0_driver lkX10_99 b0 rfl rfl rfl rfl rfl (cn_X0_driver_no bd hi) ⟨Nat.le_of_ble_eq_true rfl, Nat.le_of_ble_eq_true rfl, Nat.le_of_ble_eq_true rfl, Nat.le_of_ble_eq_true rfl, Nat.le_of_ble_eq_true rfl⟩ (fun n9 h9 q1 q2 => ⟨rfl, q1, q2⟩)
set_option maxRecDepth 100000 in
set_option maxHeartbeats 4000000 in
theorem cn_X10_fill {K : KX} {n : Nat} {h : MH} {c : Nat} {P : CS} (x : Cp h n c P) {i : Int32} {d : Nat} (hi : i = nI d) (hd : d < bnd (pB P)) (ht : 2 ≤ rn (bT (pB P) d)) : Con K mX10_fill [.ref c, .int i] 0 0 n h (fun r9 n9 h' => ∃ k B', FillR d 20 (pB P) k B' ∧ r9 = .inl (some (.int (nI k))) ∧ n9 = n ∧ CpE h h' n c (p_setB P B')) := by
  refine Con.of (by decide +kernel) (Nat.le_of_ble_eq_true rfl) ?_
  obtain ⟨ba, sa, Sp, S, H, A, V, Kx, x, xfc, xfp⟩ := x
  obtain ⟨c0, bd, sp, sv, ins, pf, mt, sh, tx, rd, ad, nn⟩ := id x
  have b0 := bd.1
  have b5 := bd.2.2.2.2.2.1
  have b6 := bd.2.2.2.2.2.2
  have adr := x.adr
  have loop : ∀ (f : Nat) (k : Nat) (B1 : BS) (h1 : MH), k + f = 20 → (∀ k' B', FillR d f B1 k' B' → FillR d 20 (pB P) (k + k') B') → Bd h1 ba B1 → bnd B1 = bnd (pB P) → 2 ≤ rn (bT B1 d) → InE h1 (c + 144) → Off2 ba (ba + 71) (c + 144) (c + 155) h h1 → GG (K, mX10_fill, 0, 0, (fun r9 n9 h' => ∃ k B', FillR d 20 (pB P) k B' ∧ r9 = .inl (some (.int (nI k))) ∧ n9 = n ∧ CpE h h' n c (p_setB P B'))) 0 0 14 [(4, .int (nI k)), (3, .int (nI k)), (2, .ref (ba + 3 + 6 * d)), (0, .ref c), (1, .int i)] [] n h1 := by
    intro f
    induction f with
    | zero =>
      intro k B1 h1 hk hs bd9 hnd ht i9 o
      refine mj_iload 0 dX10_fill_14 rfl ?_
      refine mj_bipush (v := (20)) dX10_fill_16 rfl ?_
      refine mj_icmp_ge 63 dX10_fill_18 (by decide) (fun c_18 => ?_) (fun c_18 => ?_)
      · refine mj_iload_n 1 dX10_fill_63 rfl ?_
        exact mj_iret dX10_fill_64 rfl (Nat.le_of_ble_eq_true rfl) (Nat.le_of_ble_eq_true rfl) ⟨k, B1, hs 0 B1 ⟨rfl, rfl⟩, rfl, rfl, (⟨ba, sa, Sp, S, H, A, V, Kx, x.bd bd9 i9 (pf.at fun q h1 h2 => o q (by omega) (by omega)) (mt.at fun q h1 h2 => o q (by omega) (by omega)) (sh.at fun q h1 h2 => o q (by omega) (by omega)) (fun q h1 h2 => o q h1 (by omega)), xfc, xfp⟩ : Cp _ n c (p_setB P B1)), fun q hq => o q (by omega) (by omega)⟩
      · exact absurd (nI_le (show 20 ≤ k by omega) (by omega)) c_18
    | succ f ih =>
      intro k B1 h1 hk hs bd9 hnd ht i9 o
      have c09 : h1 c = some (cpC c ba sa) := (o _ (by omega) (by omega)).trans c0
      have bb5 := bd9.2.2.2.2.2.1
      have bb6 := bd9.2.2.2.2.2.2
      refine mj_iload 0 dX10_fill_14 rfl ?_
      refine mj_bipush (v := (20)) dX10_fill_16 rfl ?_
      refine mj_icmp_ge 63 dX10_fill_18 (by decide) (fun c_18 => ?_) (fun c_18 => ?_)
      · exact absurd c_18 (nI_ge (show k < 20 by omega) (by decide))
      · refine mj_aload_n 3 dX10_fill_21 rfl ?_
        refine mj_aload_n 2 dX10_fill_22 rfl ?_
        refine mj_cV1 [_] (RX10, TX10, 9) dX10_fill_23 cwX10_bestReplacement lkX10_250 c09 rfl rfl rfl rfl (cn_X10_bestReplacement c09 bd9 i9 adr (show d < bnd B1 by omega) ht) ⟨Nat.le_of_ble_eq_true rfl, Nat.le_of_ble_eq_true rfl, Nat.le_of_ble_eq_true rfl, Nat.le_of_ble_eq_true rfl, Nat.le_of_ble_eq_true rfl⟩ (fun h' e' => ?_)
        obtain ⟨i7, o7⟩ := e'
        have bd7 := bd9.off o7 (by omega)
        have c07 := o7.at c09 (by omega)
        have b07 := bd7.1
        refine mj_istore (ls' := [(5, _), (4, _), (3, _), (2, _), (0, _), (1, _)]) dX10_fill_26 (Nat.le_of_ble_eq_true rfl) rfl ?_
        refine mj_iload 0 dX10_fill_28 rfl ?_
        refine mj_iconst (v := (-1)) dX10_fill_30 rfl ?_
        refine mj_icmp_ne 36 dX10_fill_31 (by decide) (fun c_31 => ?_) (fun c_31 => ?_)
        · refine mj_aload_n 4 dX10_fill_36 rfl ?_
          refine mj_getf dX10_fill_37 fgX10_26 (by repeat (first | assumption | exact mup_s _ _ _ | rw [mup_n _ _ (by omega)])) rfl ?_
          refine mj_aload_n 4 dX10_fill_40 rfl ?_
          refine mj_getf dX10_fill_41 fgX10_12 (by repeat (first | assumption | exact mup_s _ _ _ | rw [mup_n _ _ (by omega)])) rfl ?_
          refine mj_iload 0 dX10_fill_44 rfl ?_
          obtain ⟨r, hr, er⟩ := (b_repl_ix B1 d).resolve_left c_31
          refine mj_cV1 [_] (RX0, TX0, 5) dX10_fill_46 cwX0_rider lkX10_152 (bd7.1) rfl rfl rfl rfl (cn_X0_rider bd7 (j := r) er hr) ⟨Nat.le_of_ble_eq_true rfl, Nat.le_of_ble_eq_true rfl, Nat.le_of_ble_eq_true rfl, Nat.le_of_ble_eq_true rfl, Nat.le_of_ble_eq_true rfl⟩ (fun h' e' => ?_)
          subst h'
          refine mj_aload_n 3 dX10_fill_49 rfl ?_
          obtain ⟨U2, upa, uda, ui⟩ := id i7
          refine mj_cV1 [_, _] (RX2, TX2, 4) dX10_fill_50 cwX2_putIn lkX10_204 (ui.1) rfl rfl rfl rfl (cn_X2_putIn i7 bd7 (r := r) (show r < 20 by omega) (show d < 8 by omega) ht (by omega)) ⟨Nat.le_of_ble_eq_true rfl, Nat.le_of_ble_eq_true rfl, Nat.le_of_ble_eq_true rfl, Nat.le_of_ble_eq_true rfl, Nat.le_of_ble_eq_true rfl⟩ (fun h' e' => ?_)
          obtain ⟨B8, bd8, bp, i8, o8⟩ := e'
          refine mj_pop dX10_fill_53 rfl ?_
          refine mj_iinc (ls' := [(3, _), (5, _), (4, _), (2, _), (0, _), (1, _)]) 2 dX10_fill_54 rfl (nI_s _) (Nat.le_of_ble_eq_true rfl) rfl ?_
          refine mj_iinc (ls' := [(4, _), (3, _), (5, _), (2, _), (0, _), (1, _)]) 2 dX10_fill_57 rfl (nI_s _) (Nat.le_of_ble_eq_true rfl) rfl ?_
          refine mj_goto 14 dX10_fill_60 (by decide) ?_
          have sm := bp.same
          exact mj_ls [0, 1, 3, 4, 5] rfl (ih (k + 1) B8 _ (by omega) (fun k' B' hf => by have := hs (k' + 1) B' (Or.inr ⟨r, B8, k', hr, er, bp, hf, rfl⟩); rw [show k + (k' + 1) = k + 1 + k' by omega] at this; exact this) bd8 (sm.1.trans hnd) (Nat.le_trans ht (sm.2.2.2.2 d)) i8 ((o.tr o7.to2).tr o8))
        · refine mj_iload_n 2 dX10_fill_34 rfl ?_
          have o6 : Off2 ba (ba + 71) (c + 144) (c + 155) h _ := o.tr o7.to2
          exact mj_iret dX10_fill_35 rfl (Nat.le_of_ble_eq_true rfl) (Nat.le_of_ble_eq_true rfl) ⟨k, B1, hs 0 B1 (Or.inl ⟨c_31, rfl, rfl⟩), rfl, rfl, (⟨ba, sa, Sp, S, H, A, V, Kx, x.bd bd7 i7 (pf.at fun q h1 h2 => o6 q (by omega) (by omega)) (mt.at fun q h1 h2 => o6 q (by omega) (by omega)) (sh.at fun q h1 h2 => o6 q (by omega) (by omega)) (fun q h1 h2 => o6 q h1 (by omega)), xfc, xfp⟩ : Cp _ n c (p_setB P B1)), fun q hq => o6 q (by omega) (by omega)⟩
  refine mj_aload_n 0 dX10_fill_0 rfl ?_
  refine mj_getf dX10_fill_1 fgX10_12 (by repeat (first | assumption | exact mup_s _ _ _ | rw [mup_n _ _ (by omega)])) rfl ?_
  refine mj_iload_n 1 dX10_fill_4 rfl ?_
  refine mj_cV1 [_] (RX0, TX0, 5) dX10_fill_5 cwX0_driver lkX10_99 (bd.1) rfl rfl rfl rfl (cn_X0_driver bd (j := d) hi hd) ⟨Nat.le_of_ble_eq_true rfl, Nat.le_of_ble_eq_true rfl, Nat.le_of_ble_eq_true rfl, Nat.le_of_ble_eq_true rfl, Nat.le_of_ble_eq_true rfl⟩ (fun h' e' => ?_)
  subst h'
  refine mj_astore_n (ls' := [(2, _), (0, _), (1, _)]) dX10_fill_8 (Nat.le_of_ble_eq_true rfl) rfl ?_
  refine mj_iconst (v := 0) dX10_fill_9 rfl ?_
  refine mj_istore_n (ls' := [(3, _), (2, _), (0, _), (1, _)]) dX10_fill_10 (Nat.le_of_ble_eq_true rfl) rfl ?_
  refine mj_iconst (v := 0) dX10_fill_11 rfl ?_
  refine mj_istore (ls' := [(4, _), (3, _), (2, _), (0, _), (1, _)]) dX10_fill_12 (Nat.le_of_ble_eq_true rfl) rfl ?_
  exact mj_ls [0, 1, 2, 3, 4] rfl (loop 20 0 (pB P) h (by omega) (fun k' B' hf => by rw [Nat.zero_add]; exact hf) bd rfl ht ins (fun _ _ _ => rfl))
set_option maxRecDepth 100000 in
set_option maxHeartbeats 4000000 in
theorem cn_X10_assign_nor {K : KX} {n : Nat} {h : MH} {c : Nat} {P : CS} (x : Cp h n c P) {i : Int32} (hi : b_in i 0 (nI (bnr (pB P)) - 1) = false) {j : Int32} : Con K mX10_assign [.ref c, .int i, .int j] 1 6 n h (Thr "java/lang/IndexOutOfBoundsException" n h) := by
  obtain ⟨ba, sa, Sp, S, H, A, V, Kx, x, xfc, xfp⟩ := x
  obtain ⟨c0, bd, sp, sv, ins, pf, mt, sh, tx, rd, ad, nn⟩ := id x
  have b0 := bd.1
  have b5 := bd.2.2.2.2.2.1
  have b6 := bd.2.2.2.2.2.2
  have adr := x.adr
  refine Con.of (by decide +kernel) (Nat.le_of_ble_eq_true rfl) ?_
  refine mj_aload_n 0 dX10_assign_0 rfl ?_
  refine mj_getf dX10_assign_1 fgX10_12 (by repeat (first | assumption | exact mup_s _ _ _ | rw [mup_n _ _ (by omega)])) rfl ?_
  refine mj_iload_n 1 dX10_assign_4 rfl ?_
  exact mj_tV [_] (RX0, TX0, 5) dX10_assign_5 cwX0_rider lkX10_152 b0 rfl rfl rfl rfl rfl (cn_X0_rider_no bd hi) ⟨Nat.le_of_ble_eq_true rfl, Nat.le_of_ble_eq_true rfl, Nat.le_of_ble_eq_true rfl, Nat.le_of_ble_eq_true rfl, Nat.le_of_ble_eq_true rfl⟩ (fun n9 h9 q1 q2 => ⟨rfl, q1, q2⟩)
set_option maxRecDepth 100000 in
set_option maxHeartbeats 4000000 in
theorem cn_X10_assign_nod {K : KX} {n : Nat} {h : MH} {c : Nat} {P : CS} (x : Cp h n c P) {i : Int32} {r : Nat} (hi : i = nI r) (hr : r < bnr (pB P)) {j : Int32} (hj : b_in j 0 (nI (bnd (pB P)) - 1) = false) : Con K mX10_assign [.ref c, .int i, .int j] 1 6 n h (Thr "java/lang/IndexOutOfBoundsException" n h) := by
  obtain ⟨ba, sa, Sp, S, H, A, V, Kx, x, xfc, xfp⟩ := x
  obtain ⟨c0, bd, sp, sv, ins, pf, mt, sh, tx, rd, ad, nn⟩ := id x
  have b0 := bd.1
  have b5 := bd.2.2.2.2.2.1
  have b6 := bd.2.2.2.2.2.2
  have adr := x.adr
  refine Con.of (by decide +kernel) (Nat.le_of_ble_eq_true rfl) ?_
  refine mj_aload_n 0 dX10_assign_0 rfl ?_
  refine mj_getf dX10_assign_1 fgX10_12 (by repeat (first | assumption | exact mup_s _ _ _ | rw [mup_n _ _ (by omega)])) rfl ?_
  refine mj_iload_n 1 dX10_assign_4 rfl ?_
  refine mj_cV1 [_] (RX0, TX0, 5) dX10_assign_5 cwX0_rider lkX10_152 (bd.1) rfl rfl rfl rfl (cn_X0_rider bd (j := r) hi hr) ⟨Nat.le_of_ble_eq_true rfl, Nat.le_of_ble_eq_true rfl, Nat.le_of_ble_eq_true rfl, Nat.le_of_ble_eq_true rfl, Nat.le_of_ble_eq_true rfl⟩ (fun h' e' => ?_)
  subst h'
  refine mj_astore_n (ls' := [(3, _), (0, _), (1, _), (2, _)]) dX10_assign_8 (Nat.le_of_ble_eq_true rfl) rfl ?_
  refine mj_aload_n 1 dX10_assign_9 rfl ?_
  refine mj_getf dX10_assign_10 fgX10_12 (by repeat (first | assumption | exact mup_s _ _ _ | rw [mup_n _ _ (by omega)])) rfl ?_
  refine mj_iload_n 3 dX10_assign_13 rfl ?_
  exact mj_tV [_] (RX0, TX0, 5) dX10_assign_14 cwX0_driver lkX10_99 b0 rfl rfl rfl rfl rfl (cn_X0_driver_no bd hj) ⟨Nat.le_of_ble_eq_true rfl, Nat.le_of_ble_eq_true rfl, Nat.le_of_ble_eq_true rfl, Nat.le_of_ble_eq_true rfl, Nat.le_of_ble_eq_true rfl⟩ (fun n9 h9 q1 q2 => ⟨rfl, q1, q2⟩)
set_option maxRecDepth 100000 in
set_option maxHeartbeats 4000000 in
theorem cn_X10_assign_state {K : KX} {n : Nat} {h : MH} {c : Nat} {P : CS} (x : Cp h n c P) {i : Int32} {r : Nat} (hi : i = nI r) (hr : r < bnr (pB P)) {j : Int32} {d : Nat} (hj : j = nI d) (hd : d < bnd (pB P)) (hs : ¬ qst (bX (pB P) r) = 0 ∨ ddo (bD (pB P) d) = true) : Con K mX10_assign [.ref c, .int i, .int j] 1 6 n h (Thr "java/lang/IllegalStateException" n h) := by
  obtain ⟨ba, sa, Sp, S, H, A, V, Kx, x, xfc, xfp⟩ := x
  obtain ⟨c0, bd, sp, sv, ins, pf, mt, sh, tx, rd, ad, nn⟩ := id x
  have b0 := bd.1
  have b5 := bd.2.2.2.2.2.1
  have b6 := bd.2.2.2.2.2.2
  have adr := x.adr
  obtain ⟨de, dt⟩ := bd.2.2.2.1 d (by omega)
  have dt0 := dt.1
  have re := bd.2.2.2.2.1 r (by omega)
  refine Con.of (by decide +kernel) (Nat.le_of_ble_eq_true rfl) ?_
  refine mj_aload_n 0 dX10_assign_0 rfl ?_
  refine mj_getf dX10_assign_1 fgX10_12 (by repeat (first | assumption | exact mup_s _ _ _ | rw [mup_n _ _ (by omega)])) rfl ?_
  refine mj_iload_n 1 dX10_assign_4 rfl ?_
  refine mj_cV1 [_] (RX0, TX0, 5) dX10_assign_5 cwX0_rider lkX10_152 (bd.1) rfl rfl rfl rfl (cn_X0_rider bd (j := r) hi hr) ⟨Nat.le_of_ble_eq_true rfl, Nat.le_of_ble_eq_true rfl, Nat.le_of_ble_eq_true rfl, Nat.le_of_ble_eq_true rfl, Nat.le_of_ble_eq_true rfl⟩ (fun h' e' => ?_)
  subst h'
  refine mj_astore_n (ls' := [(3, _), (0, _), (1, _), (2, _)]) dX10_assign_8 (Nat.le_of_ble_eq_true rfl) rfl ?_
  refine mj_aload_n 1 dX10_assign_9 rfl ?_
  refine mj_getf dX10_assign_10 fgX10_12 (by repeat (first | assumption | exact mup_s _ _ _ | rw [mup_n _ _ (by omega)])) rfl ?_
  refine mj_iload_n 3 dX10_assign_13 rfl ?_
  refine mj_cV1 [_] (RX0, TX0, 5) dX10_assign_14 cwX0_driver lkX10_99 (bd.1) rfl rfl rfl rfl (cn_X0_driver bd (j := d) hj hd) ⟨Nat.le_of_ble_eq_true rfl, Nat.le_of_ble_eq_true rfl, Nat.le_of_ble_eq_true rfl, Nat.le_of_ble_eq_true rfl, Nat.le_of_ble_eq_true rfl⟩ (fun h' e' => ?_)
  subst h'
  refine mj_astore (ls' := [(4, _), (3, _), (0, _), (1, _), (2, _)]) dX10_assign_17 (Nat.le_of_ble_eq_true rfl) rfl ?_
  refine mj_aload_n 1 dX10_assign_19 rfl ?_
  refine mj_getf dX10_assign_20 fgX10_156 (by repeat (first | assumption | exact mup_s _ _ _ | rw [mup_n _ _ (by omega)])) rfl ?_
  refine mj_if_eq 36 dX10_assign_23 (by decide) (fun c_23 => ?_) (fun c_23 => ?_)
  · refine mj_aload 0 dX10_assign_36 rfl ?_
    refine mj_getf dX10_assign_38 fgX10_109 (by repeat (first | assumption | exact mup_s _ _ _ | rw [mup_n _ _ (by omega)])) rfl ?_
    refine mj_if_eq 54 dX10_assign_41 (by decide) (fun c_41 => ?_) (fun c_41 => ?_)
    · exact absurd (bI_0.mp c_41) (by rw [show ddo (bD (pB P) d) = true from hs.resolve_left (fun z => z c_23)]; decide)
    · exact mj_throwS (text := "the driver is not open") dX10_assign_44 dX10_assign_47 dX10_assign_48 dX10_assign_50 dX10_assign_53 thX10_80_84 (show (("Carpool", 202, "the driver is not open") : String × Nat × String) ∈ strK by decide +kernel) rfl (Nat.le_of_ble_eq_true rfl) (Nat.le_of_ble_eq_true rfl) (Nat.le_of_ble_eq_true rfl) (Nat.le_of_ble_eq_true rfl) (fun n9 h9 => ⟨rfl, h9, rfl⟩)
  · exact mj_throwS (text := "the rider is not waiting") dX10_assign_26 dX10_assign_29 dX10_assign_30 dX10_assign_32 dX10_assign_35 thX10_80_84 (show (("Carpool", 200, "the rider is not waiting") : String × Nat × String) ∈ strK by decide +kernel) rfl (Nat.le_of_ble_eq_true rfl) (Nat.le_of_ble_eq_true rfl) (Nat.le_of_ble_eq_true rfl) (Nat.le_of_ble_eq_true rfl) (fun n9 h9 => ⟨rfl, h9, rfl⟩)
set_option maxRecDepth 100000 in
set_option maxHeartbeats 4000000 in
theorem cn_X10_assign_nox {K : KX} {n : Nat} {h : MH} {c : Nat} {P : CS} (x : Cp h n c P) {i : Int32} {r : Nat} (hi : i = nI r) (hr : r < bnr (pB P)) {j : Int32} {d : Nat} (hj : j = nI d) (hd : d < bnd (pB P)) (ht : 2 ≤ rn (bT (pB P) d)) (hs : qst (bX (pB P) r) = 0) (hs2 : ddo (bD (pB P) d) = false) (hv : (s_best (bT (pB P) d) (nI r) (bX (pB P) r) (bD (pB P) d)).1 = -1) : Con K mX10_assign [.ref c, .int i, .int j] 1 6 n h (ThrP "java/lang/IllegalStateException" n (fun h' => CpE h h' n c P)) := by
  obtain ⟨ba, sa, Sp, S, H, A, V, Kx, x, xfc, xfp⟩ := x
  obtain ⟨c0, bd, sp, sv, ins, pf, mt, sh, tx, rd, ad, nn⟩ := id x
  have b0 := bd.1
  have b5 := bd.2.2.2.2.2.1
  have b6 := bd.2.2.2.2.2.2
  have adr := x.adr
  obtain ⟨de, dt⟩ := bd.2.2.2.1 d (by omega)
  have dt0 := dt.1
  have re := bd.2.2.2.2.1 r (by omega)
  refine Con.of (by decide +kernel) (Nat.le_of_ble_eq_true rfl) ?_
  refine mj_aload_n 0 dX10_assign_0 rfl ?_
  refine mj_getf dX10_assign_1 fgX10_12 (by repeat (first | assumption | exact mup_s _ _ _ | rw [mup_n _ _ (by omega)])) rfl ?_
  refine mj_iload_n 1 dX10_assign_4 rfl ?_
  refine mj_cV1 [_] (RX0, TX0, 5) dX10_assign_5 cwX0_rider lkX10_152 (bd.1) rfl rfl rfl rfl (cn_X0_rider bd (j := r) hi hr) ⟨Nat.le_of_ble_eq_true rfl, Nat.le_of_ble_eq_true rfl, Nat.le_of_ble_eq_true rfl, Nat.le_of_ble_eq_true rfl, Nat.le_of_ble_eq_true rfl⟩ (fun h' e' => ?_)
  subst h'
  refine mj_astore_n (ls' := [(3, _), (0, _), (1, _), (2, _)]) dX10_assign_8 (Nat.le_of_ble_eq_true rfl) rfl ?_
  refine mj_aload_n 1 dX10_assign_9 rfl ?_
  refine mj_getf dX10_assign_10 fgX10_12 (by repeat (first | assumption | exact mup_s _ _ _ | rw [mup_n _ _ (by omega)])) rfl ?_
  refine mj_iload_n 3 dX10_assign_13 rfl ?_
  refine mj_cV1 [_] (RX0, TX0, 5) dX10_assign_14 cwX0_driver lkX10_99 (bd.1) rfl rfl rfl rfl (cn_X0_driver bd (j := d) hj hd) ⟨Nat.le_of_ble_eq_true rfl, Nat.le_of_ble_eq_true rfl, Nat.le_of_ble_eq_true rfl, Nat.le_of_ble_eq_true rfl, Nat.le_of_ble_eq_true rfl⟩ (fun h' e' => ?_)
  subst h'
  refine mj_astore (ls' := [(4, _), (3, _), (0, _), (1, _), (2, _)]) dX10_assign_17 (Nat.le_of_ble_eq_true rfl) rfl ?_
  refine mj_aload_n 1 dX10_assign_19 rfl ?_
  refine mj_getf dX10_assign_20 fgX10_156 (by repeat (first | assumption | exact mup_s _ _ _ | rw [mup_n _ _ (by omega)])) rfl ?_
  refine mj_if_eq 36 dX10_assign_23 (by decide) (fun c_23 => ?_) (fun c_23 => ?_)
  · refine mj_aload 0 dX10_assign_36 rfl ?_
    refine mj_getf dX10_assign_38 fgX10_109 (by repeat (first | assumption | exact mup_s _ _ _ | rw [mup_n _ _ (by omega)])) rfl ?_
    refine mj_if_eq 54 dX10_assign_41 (by decide) (fun c_41 => ?_) (fun c_41 => ?_)
    · refine mj_aload_n 2 dX10_assign_54 rfl ?_
      refine mj_getf dX10_assign_55 fgX10_26 (by repeat (first | assumption | exact mup_s _ _ _ | rw [mup_n _ _ (by omega)])) rfl ?_
      refine mj_aload_n 1 dX10_assign_58 rfl ?_
      refine mj_aload 0 dX10_assign_59 rfl ?_
      obtain ⟨U2, upa, uda, ui⟩ := id ins
      refine mj_cV1 [_, _] (RX2, TX2, 4) dX10_assign_61 cwX2_putIn lkX10_204 (ui.1) rfl rfl rfl rfl (cn_X2_putIn ins bd (r := r) (show r < 20 by omega) (show d < 8 by omega) ht (by omega)) ⟨Nat.le_of_ble_eq_true rfl, Nat.le_of_ble_eq_true rfl, Nat.le_of_ble_eq_true rfl, Nat.le_of_ble_eq_true rfl, Nat.le_of_ble_eq_true rfl⟩ (fun h' e' => ?_)
      obtain ⟨B8, bd8, bp, i8, o8⟩ := e'
      refine mj_istore (ls' := [(5, _), (4, _), (3, _), (0, _), (1, _), (2, _)]) dX10_assign_64 (Nat.le_of_ble_eq_true rfl) rfl ?_
      refine mj_iload 0 dX10_assign_66 rfl ?_
      refine mj_iconst (v := (-1)) dX10_assign_68 rfl ?_
      refine mj_icmp_ne 82 dX10_assign_69 (by decide) (fun c_69 => ?_) (fun c_69 => ?_)
      · exact absurd hv c_69
      · exact mj_throwS (text := "there is no extra") dX10_assign_72 dX10_assign_75 dX10_assign_76 dX10_assign_78 dX10_assign_81 thX10_80_84 (show (("Carpool", 207, "there is no extra") : String × Nat × String) ∈ strK by decide +kernel) rfl (Nat.le_of_ble_eq_true rfl) (Nat.le_of_ble_eq_true rfl) (Nat.le_of_ble_eq_true rfl) (Nat.le_of_ble_eq_true rfl) (fun n9 h9 => ⟨rfl, h9, (by unfold Bput at bp; rw [if_pos hv] at bp; subst bp; exact ⟨(⟨ba, sa, Sp, S, H, A, V, Kx, x.bd bd8 i8 (pf.at fun q h1 h2 => o8 q (by omega) (by omega)) (mt.at fun q h1 h2 => o8 q (by omega) (by omega)) (sh.at fun q h1 h2 => o8 q (by omega) (by omega)) (fun q h1 h2 => o8 q h1 (by omega)), xfc, xfp⟩ : Cp _ n c (p_setB P (pB P))), fun q hq => o8 q (by omega) (by omega)⟩)⟩)
    · exact absurd (hs2.symm.trans (bI_n0.mp c_41)) (by decide)
  · exact absurd hs c_23
set_option maxRecDepth 100000 in
set_option maxHeartbeats 4000000 in
theorem cn_X10_assign {K : KX} {n : Nat} {h : MH} {c : Nat} {P : CS} (x : Cp h n c P) {i : Int32} {r : Nat} (hi : i = nI r) (hr : r < bnr (pB P)) {j : Int32} {d : Nat} (hj : j = nI d) (hd : d < bnd (pB P)) (ht : 2 ≤ rn (bT (pB P) d)) (hs : qst (bX (pB P) r) = 0) (hs2 : ddo (bD (pB P) d) = false) (hv : ¬ (s_best (bT (pB P) d) (nI r) (bX (pB P) r) (bD (pB P) d)).1 = -1) : Con K mX10_assign [.ref c, .int i, .int j] 0 0 n h (RetP (some (.int (s_best (bT (pB P) d) (nI r) (bX (pB P) r) (bD (pB P) d)).1)) n (fun h' => ∃ B', Bput (pB P) r d B' ∧ CpE h h' n c (p_setB P B'))) := by
  obtain ⟨ba, sa, Sp, S, H, A, V, Kx, x, xfc, xfp⟩ := x
  obtain ⟨c0, bd, sp, sv, ins, pf, mt, sh, tx, rd, ad, nn⟩ := id x
  have b0 := bd.1
  have b5 := bd.2.2.2.2.2.1
  have b6 := bd.2.2.2.2.2.2
  have adr := x.adr
  obtain ⟨de, dt⟩ := bd.2.2.2.1 d (by omega)
  have dt0 := dt.1
  have re := bd.2.2.2.2.1 r (by omega)
  refine Con.of (by decide +kernel) (Nat.le_of_ble_eq_true rfl) ?_
  refine mj_aload_n 0 dX10_assign_0 rfl ?_
  refine mj_getf dX10_assign_1 fgX10_12 (by repeat (first | assumption | exact mup_s _ _ _ | rw [mup_n _ _ (by omega)])) rfl ?_
  refine mj_iload_n 1 dX10_assign_4 rfl ?_
  refine mj_cV1 [_] (RX0, TX0, 5) dX10_assign_5 cwX0_rider lkX10_152 (bd.1) rfl rfl rfl rfl (cn_X0_rider bd (j := r) hi hr) ⟨Nat.le_of_ble_eq_true rfl, Nat.le_of_ble_eq_true rfl, Nat.le_of_ble_eq_true rfl, Nat.le_of_ble_eq_true rfl, Nat.le_of_ble_eq_true rfl⟩ (fun h' e' => ?_)
  subst h'
  refine mj_astore_n (ls' := [(3, _), (0, _), (1, _), (2, _)]) dX10_assign_8 (Nat.le_of_ble_eq_true rfl) rfl ?_
  refine mj_aload_n 1 dX10_assign_9 rfl ?_
  refine mj_getf dX10_assign_10 fgX10_12 (by repeat (first | assumption | exact mup_s _ _ _ | rw [mup_n _ _ (by omega)])) rfl ?_
  refine mj_iload_n 3 dX10_assign_13 rfl ?_
  refine mj_cV1 [_] (RX0, TX0, 5) dX10_assign_14 cwX0_driver lkX10_99 (bd.1) rfl rfl rfl rfl (cn_X0_driver bd (j := d) hj hd) ⟨Nat.le_of_ble_eq_true rfl, Nat.le_of_ble_eq_true rfl, Nat.le_of_ble_eq_true rfl, Nat.le_of_ble_eq_true rfl, Nat.le_of_ble_eq_true rfl⟩ (fun h' e' => ?_)
  subst h'
  refine mj_astore (ls' := [(4, _), (3, _), (0, _), (1, _), (2, _)]) dX10_assign_17 (Nat.le_of_ble_eq_true rfl) rfl ?_
  refine mj_aload_n 1 dX10_assign_19 rfl ?_
  refine mj_getf dX10_assign_20 fgX10_156 (by repeat (first | assumption | exact mup_s _ _ _ | rw [mup_n _ _ (by omega)])) rfl ?_
  refine mj_if_eq 36 dX10_assign_23 (by decide) (fun c_23 => ?_) (fun c_23 => ?_)
  · refine mj_aload 0 dX10_assign_36 rfl ?_
    refine mj_getf dX10_assign_38 fgX10_109 (by repeat (first | assumption | exact mup_s _ _ _ | rw [mup_n _ _ (by omega)])) rfl ?_
    refine mj_if_eq 54 dX10_assign_41 (by decide) (fun c_41 => ?_) (fun c_41 => ?_)
    · refine mj_aload_n 2 dX10_assign_54 rfl ?_
      refine mj_getf dX10_assign_55 fgX10_26 (by repeat (first | assumption | exact mup_s _ _ _ | rw [mup_n _ _ (by omega)])) rfl ?_
      refine mj_aload_n 1 dX10_assign_58 rfl ?_
      refine mj_aload 0 dX10_assign_59 rfl ?_
      obtain ⟨U2, upa, uda, ui⟩ := id ins
      refine mj_cV1 [_, _] (RX2, TX2, 4) dX10_assign_61 cwX2_putIn lkX10_204 (ui.1) rfl rfl rfl rfl (cn_X2_putIn ins bd (r := r) (show r < 20 by omega) (show d < 8 by omega) ht (by omega)) ⟨Nat.le_of_ble_eq_true rfl, Nat.le_of_ble_eq_true rfl, Nat.le_of_ble_eq_true rfl, Nat.le_of_ble_eq_true rfl, Nat.le_of_ble_eq_true rfl⟩ (fun h' e' => ?_)
      obtain ⟨B8, bd8, bp, i8, o8⟩ := e'
      refine mj_istore (ls' := [(5, _), (4, _), (3, _), (0, _), (1, _), (2, _)]) dX10_assign_64 (Nat.le_of_ble_eq_true rfl) rfl ?_
      refine mj_iload 0 dX10_assign_66 rfl ?_
      refine mj_iconst (v := (-1)) dX10_assign_68 rfl ?_
      refine mj_icmp_ne 82 dX10_assign_69 (by decide) (fun c_69 => ?_) (fun c_69 => ?_)
      · refine mj_iload 0 dX10_assign_82 rfl ?_
        exact mj_iret dX10_assign_84 rfl (Nat.le_of_ble_eq_true rfl) (Nat.le_of_ble_eq_true rfl) ⟨rfl, rfl, ⟨B8, bp, (⟨ba, sa, Sp, S, H, A, V, Kx, x.bd bd8 i8 (pf.at fun q h1 h2 => o8 q (by omega) (by omega)) (mt.at fun q h1 h2 => o8 q (by omega) (by omega)) (sh.at fun q h1 h2 => o8 q (by omega) (by omega)) (fun q h1 h2 => o8 q h1 (by omega)), xfc, xfp⟩ : Cp _ n c (p_setB P B8)), fun q hq => o8 q (by omega) (by omega)⟩⟩
      · exact absurd c_69 hv
    · exact absurd (hs2.symm.trans (bI_n0.mp c_41)) (by decide)
  · exact absurd hs c_23
