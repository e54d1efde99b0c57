theorem CpX.tx {h h' : MH} {n c ba sa : Nat} {B Sp : BS} {sv : Nat → Option (Nat × BS)} {S : Nat → Nat → Int32} {H A : Nat → Int32} {V : VS} {T T' : Nat → Int32} {tl tl' : Nat} {Kx : KS} (x : CpX h n c ba sa B Sp sv S H A V T tl Kx) (tx' : Tx h' (c + 172) T' tl') (o : Off (c + 172) (c + 174) h h') : CpX h' n c ba sa B Sp sv S H A V T' tl' Kx := by
  have ad := x.adr
  obtain ⟨c0, bd, sp, sv, ins, pf, mt, sh, tx, rd, ad, nn⟩ := x
  exact ⟨o.at c0 (by omega), bd.off o (by omega), sp.off o (by omega), sv.at fun q h1 => o q (by omega), ins.at fun q h1 h2 => o q (by omega), pf.off o (by omega), mt.off o (by omega), sh.off o (by omega), tx', rd.off o (by omega), ad, nn⟩
def p_setT (P : CS) (T : Nat → Int32) (tl : Nat) : CS := (pB P, pV P, T, tl, pfc P, pfp P)
def t_app (v : Int32) : Nat → (Nat → Int32) → Nat → Nat → Int32
  | 0, T, _ => T
  | f + 1, T, m => t_app v f (upd T m (i_ushr v (nI (8 * f)) &&& 255)) (m + 1)
theorem sh_go (f : Nat) : nI (8 * (f + 1)) + -8 = nI (8 * f) := by
  have e : nI (8 * (f + 1)) = nI (8 * f) + nI 8 := (nI_add (8 * f) 8).symm
  rw [e, Int32.add_assoc, show (nI 8 + -8 : Int32) = 0 from rfl, Int32.add_zero]
set_option maxRecDepth 100000 in
set_option maxHeartbeats 4000000 in
theorem cn_X10_truncateText_arg {K : KX} {n : Nat} {h : MH} {c : Nat} {P : CS} (x : Cp h n c P) {v : Int32} (hb : b_in v 0 (nI (pL P)) = false) : Con K mX10_truncateText [.ref c, .int v] 1 6 n h (Thr "java/lang/IllegalArgumentException" n h) := by
  obtain ⟨ba, sa, Sp, S, H, A, V, Kx, x, xfc, xfp⟩ := x
  obtain ⟨c0, bd, sp, sv, ins, pf, mt, sh, tx, rd, ad, nn⟩ := id x
  have b0 := bd.1
  have b5 := bd.2.2.2.2.2.1
  have b6 := bd.2.2.2.2.2.2
  have adr := x.adr
  have tx0 := tx.1
  refine Con.of (by decide +kernel) (Nat.le_of_ble_eq_true rfl) ?_
  refine mj_iload_n 1 dX10_truncateText_0 rfl ?_
  refine mj_iconst (v := 0) dX10_truncateText_1 rfl ?_
  refine mj_aload_n 0 dX10_truncateText_2 rfl ?_
  refine mj_getf dX10_truncateText_3 fgX10_54 (by repeat (first | assumption | exact mup_s _ _ _ | rw [mup_n _ _ (by omega)])) rfl ?_
  refine mj_getf dX10_truncateText_6 fgX10_287 (by repeat (first | assumption | exact mup_s _ _ _ | rw [mup_n _ _ (by omega)])) rfl ?_
  refine mj_cS1 [_, _, _] dX10_truncateText_9 cwX10_isWithin lkX10_65 rfl (cn_X10_isWithin _ _ _) ⟨Nat.le_of_ble_eq_true rfl, Nat.le_of_ble_eq_true rfl, Nat.le_of_ble_eq_true rfl, Nat.le_of_ble_eq_true rfl, Nat.le_of_ble_eq_true rfl⟩ (fun h' e' => ?_)
  subst h'
  refine mj_if_ne 26 dX10_truncateText_12 (by decide) (fun c_12 => ?_) (fun c_12 => ?_)
  · exact absurd (hb.symm.trans (bI_n0.mp c_12)) (by decide)
  · exact mj_throwSW (text := "the length is out of range") dX10_truncateText_15 dX10_truncateText_18 dX10_truncateText_19 dX10_truncateText_22 dX10_truncateText_25 thX10_69_73 (show (("Carpool", 295, "the length is out of range") : String × Nat × String) ∈ strK by decide +kernel) rfl (Nat.le_of_ble_eq_true rfl) (Nat.le_of_ble_eq_true rfl) (Nat.le_of_ble_eq_true rfl) (Nat.le_of_ble_eq_true rfl) (fun n9 h9 => ⟨rfl, h9, rfl⟩)
set_option maxRecDepth 100000 in
set_option maxHeartbeats 4000000 in
theorem cn_X10_truncateText {K : KX} {n : Nat} {h : MH} {c : Nat} {P : CS} (x : Cp h n c P) {v : Int32} {t : Nat} (hv : v = nI t) (ht : t ≤ pL P) : Con K mX10_truncateText [.ref c, .int v] 0 0 n h (RetP (some (.int v)) n (fun h' => CpE h h' n c (p_setT P (pT P) t))) := by
  obtain ⟨ba, sa, Sp, S, H, A, V, Kx, x, xfc, xfp⟩ := x
  obtain ⟨c0, bd, sp, sv, ins, pf, mt, sh, tx, rd, ad, nn⟩ := id x
  have b0 := bd.1
  have b5 := bd.2.2.2.2.2.1
  have b6 := bd.2.2.2.2.2.2
  have adr := x.adr
  have tx0 := tx.1
  have tl6 := tx.2.2
  have hb : b_in v 0 (nI (pL P)) = true := by
    have e2 := ixn (j := t) (by omega)
    have e3 := ixn (j := pL P) (by omega)
    have e0 : (0 : Int32).toInt = 0 := rfl
    subst hv
    simp only [b_in, Bool.and_eq_true, decide_eq_true_eq, Int32.le_iff_toInt_le]
    omega
  refine Con.of (by decide +kernel) (Nat.le_of_ble_eq_true rfl) ?_
  refine mj_iload_n 1 dX10_truncateText_0 rfl ?_
  refine mj_iconst (v := 0) dX10_truncateText_1 rfl ?_
  refine mj_aload_n 0 dX10_truncateText_2 rfl ?_
  refine mj_getf dX10_truncateText_3 fgX10_54 (by repeat (first | assumption | exact mup_s _ _ _ | rw [mup_n _ _ (by omega)])) rfl ?_
  refine mj_getf dX10_truncateText_6 fgX10_287 (by repeat (first | assumption | exact mup_s _ _ _ | rw [mup_n _ _ (by omega)])) rfl ?_
  refine mj_cS1 [_, _, _] dX10_truncateText_9 cwX10_isWithin lkX10_65 rfl (cn_X10_isWithin _ _ _) ⟨Nat.le_of_ble_eq_true rfl, Nat.le_of_ble_eq_true rfl, Nat.le_of_ble_eq_true rfl, Nat.le_of_ble_eq_true rfl, Nat.le_of_ble_eq_true rfl⟩ (fun h' e' => ?_)
  subst h'
  refine mj_if_ne 26 dX10_truncateText_12 (by decide) (fun c_12 => ?_) (fun c_12 => ?_)
  · refine mj_aload_n 0 dX10_truncateText_26 rfl ?_
    refine mj_getf dX10_truncateText_27 fgX10_54 (by repeat (first | assumption | exact mup_s _ _ _ | rw [mup_n _ _ (by omega)])) rfl ?_
    refine mj_iload_n 1 dX10_truncateText_30 rfl ?_
    refine mj_putf dX10_truncateText_31 fgX10_287 (by repeat (first | assumption | exact mup_s _ _ _ | rw [mup_n _ _ (by omega)])) rfl rfl rfl (Nat.le_of_ble_eq_true rfl) rfl ?_
    refine mj_iload_n 1 dX10_truncateText_34 rfl ?_
    exact mj_iret dX10_truncateText_35 rfl (Nat.le_of_ble_eq_true rfl) (Nat.le_of_ble_eq_true rfl) ⟨rfl, rfl, ⟨⟨ba, sa, Sp, S, H, A, V, Kx, x.tx (T' := pT P) (tl' := t) ⟨by rw [hv]; exact mup_s _ _ _, (mup_n _ _ (by omega)).trans tx.2.1, by have := tx.2.2; omega⟩ (Off.m0 _ (by omega) (by omega)), xfc, xfp⟩, (Off.m0 (a := c + 172) (b := c + 174) _ (by omega) (by omega)).toC (by omega) (by omega)⟩⟩
  · exact absurd (hb.symm.trans (bI_0.mp c_12)) (by decide)
set_option maxRecDepth 100000 in
set_option maxHeartbeats 4000000 in
theorem cn_X10_appendText_full {K : KX} {n : Nat} {h : MH} {c : Nat} {P : CS} (x : Cp h n c P) {v : Int32} (hb : 600 < pL P + 4) : Con K mX10_appendText [.ref c, .int v] 1 6 n h (Thr "java/lang/IllegalStateException" n h) := by
  obtain ⟨ba, sa, Sp, S, H, A, V, Kx, x, xfc, xfp⟩ := x
  obtain ⟨c0, bd, sp, sv, ins, pf, mt, sh, tx, rd, ad, nn⟩ := id x
  have b0 := bd.1
  have b5 := bd.2.2.2.2.2.1
  have b6 := bd.2.2.2.2.2.2
  have adr := x.adr
  have tx0 := tx.1
  have tl6 := tx.2.2
  refine Con.of (by decide +kernel) (Nat.le_of_ble_eq_true rfl) ?_
  refine mj_aload_n 0 dX10_appendText_0 rfl ?_
  refine mj_getf dX10_appendText_1 fgX10_54 (by repeat (first | assumption | exact mup_s _ _ _ | rw [mup_n _ _ (by omega)])) rfl ?_
  refine mj_getf dX10_appendText_4 fgX10_287 (by repeat (first | assumption | exact mup_s _ _ _ | rw [mup_n _ _ (by omega)])) rfl ?_
  refine mj_iconst (v := 4) dX10_appendText_7 rfl ?_
  refine mj_iadd dX10_appendText_8 ?_
  refine mj_eq (show nI (pL P) + 4 = nI (pL P + 4) from nI_add _ 4) ?_
  refine mj_sipush (v := (600)) dX10_appendText_9 rfl ?_
  refine mj_icmp_le 26 dX10_appendText_12 (by decide) (fun c_12 => ?_) (fun c_12 => ?_)
  · exact absurd ((nI_leI (a := pL P + 4) (b := 600) (by omega) (by omega)).mp c_12) (by omega)
  · exact mj_throwSW (text := "the text would be too long") dX10_appendText_15 dX10_appendText_18 dX10_appendText_19 dX10_appendText_22 dX10_appendText_25 thX10_80_84 (show (("Carpool", 289, "the text would be too long") : String × Nat × String) ∈ strK by decide +kernel) rfl (Nat.le_of_ble_eq_true rfl) (Nat.le_of_ble_eq_true rfl) (Nat.le_of_ble_eq_true rfl) (Nat.le_of_ble_eq_true rfl) (fun n9 h9 => ⟨rfl, h9, rfl⟩)
set_option maxRecDepth 100000 in
set_option maxHeartbeats 4000000 in
theorem cn_X10_appendText {K : KX} {n : Nat} {h : MH} {c : Nat} {P : CS} (x : Cp h n c P) {v : Int32} (hb : pL P + 4 ≤ 600) : Con K mX10_appendText [.ref c, .int v] 0 0 n h (RetP (some (.int (nI (pL P + 4)))) n (fun h' => CpE h h' n c (p_setT P (t_app v 4 (pT P) (pL P)) (pL P + 4)))) := by
  refine Con.of (by decide +kernel) (Nat.le_of_ble_eq_true rfl) ?_
  obtain ⟨ba, sa, Sp, S, H, A, V, Kx, x, xfc, xfp⟩ := x
  obtain ⟨c0, bd, sp, sv, ins, pf, mt, sh, tx, rd, ad, nn⟩ := id x
  have b0 := bd.1
  have b5 := bd.2.2.2.2.2.1
  have b6 := bd.2.2.2.2.2.2
  have adr := x.adr
  have tx0 := tx.1
  have tl6 := tx.2.2
  have loop : ∀ (f0 : Nat) (T1 : Nat → Int32) (m : Nat) (g : MH), f0 ≤ 4 → m + f0 = pL P + 4 → t_app v 4 (pT P) (pL P) = t_app v f0 T1 m → Tx g (c + 172) T1 m → Off (c + 172) (c + 174) h g → GG (K, mX10_appendText, 0, 0, RetP (some (.int (nI (pL P + 4)))) n (fun h' => CpE h h' n c (p_setT P (t_app v 4 (pT P) (pL P)) (pL P + 4)))) 0 0 29 [(2, .int (nI (8 * f0) + -8)), (0, .ref c), (1, .int v)] [] n g := by
    intro f0
    induction f0 with
    | zero =>
      intro T1 m g hf hm ht tx9 o
      have c09 := o.at c0 (by omega)
      have tx0 := tx9.1
      refine mj_iload_n 0 dX10_appendText_29 rfl ?_
      refine mj_if_lt 53 dX10_appendText_30 (by decide) (fun c_30 => ?_) (fun c_30 => ?_)
      · refine mj_aload_n 1 dX10_appendText_53 rfl ?_
        refine mj_getf dX10_appendText_54 fgX10_54 (by repeat (first | assumption | exact mup_s _ _ _ | rw [mup_n _ _ (by omega)])) rfl ?_
        refine mj_getf dX10_appendText_57 fgX10_287 (by repeat (first | assumption | exact mup_s _ _ _ | rw [mup_n _ _ (by omega)])) rfl ?_
        exact mj_iret dX10_appendText_60 rfl (Nat.le_of_ble_eq_true rfl) (Nat.le_of_ble_eq_true rfl) ⟨(by rw [show m = pL P + 4 by omega]), rfl, ⟨⟨ba, sa, Sp, S, H, A, V, Kx, x.tx (T' := t_app v 4 (pT P) (pL P)) (tl' := pL P + 4) (by rw [ht, ← show m = pL P + 4 by omega]; exact tx9) o, xfc, xfp⟩, o.toC (by omega) (by omega)⟩⟩
      · exact absurd (show nI (8 * 0) + -8 < 0 by decide) c_30
    | succ f ih =>
      intro T1 m g hf hm ht tx9 o
      have c09 := o.at c0 (by omega)
      have tx0 := tx9.1
      rw [sh_go]
      refine mj_iload_n 0 dX10_appendText_29 rfl ?_
      refine mj_if_lt 53 dX10_appendText_30 (by decide) (fun c_30 => ?_) (fun c_30 => ?_)
      · exact absurd (Int32.lt_iff_toInt_lt.mp c_30) (by rw [ixn (by omega)]; show ¬ _ < (0 : Int32).toInt; have : (0 : Int32).toInt = 0 := rfl; omega)
      · refine mj_aload_n 1 dX10_appendText_33 rfl ?_
        refine mj_getf dX10_appendText_34 fgX10_54 (by repeat (first | assumption | exact mup_s _ _ _ | rw [mup_n _ _ (by omega)])) rfl ?_
        refine mj_iload_n 2 dX10_appendText_37 rfl ?_
        refine mj_iload_n 0 dX10_appendText_38 rfl ?_
        refine mj_iushr dX10_appendText_39 rfl ?_
        refine mj_sipush (v := (255)) dX10_appendText_40 rfl ?_
        refine mj_iand dX10_appendText_43 ?_
        refine mj_cV0 [_] (RX8, TX8, 2) dX10_appendText_44 cwX8_add lkX10_291 tx0 rfl rfl rfl rfl (cn_X8_add tx9 (by omega)) ⟨Nat.le_of_ble_eq_true rfl, Nat.le_of_ble_eq_true rfl, Nat.le_of_ble_eq_true rfl, Nat.le_of_ble_eq_true rfl, Nat.le_of_ble_eq_true rfl⟩ (fun h' e' => ?_)
        obtain ⟨tx8, o8⟩ := e'
        refine mj_iinc (ls' := [(2, _), (0, _), (1, _)]) 0 dX10_appendText_47 rfl rfl (Nat.le_of_ble_eq_true rfl) rfl ?_
        refine mj_goto 29 dX10_appendText_50 (by decide) ?_
        exact mj_ls [0, 1, 2] rfl (ih _ (m + 1) _ (by omega) (by omega) (by rw [ht]; rfl) tx8 (o.tr o8))
  refine mj_aload_n 0 dX10_appendText_0 rfl ?_
  refine mj_getf dX10_appendText_1 fgX10_54 (by repeat (first | assumption | exact mup_s _ _ _ | rw [mup_n _ _ (by omega)])) rfl ?_
  refine mj_getf dX10_appendText_4 fgX10_287 (by repeat (first | assumption | exact mup_s _ _ _ | rw [mup_n _ _ (by omega)])) rfl ?_
  refine mj_iconst (v := 4) dX10_appendText_7 rfl ?_
  refine mj_iadd dX10_appendText_8 ?_
  refine mj_eq (show nI (pL P) + 4 = nI (pL P + 4) from nI_add _ 4) ?_
  refine mj_sipush (v := (600)) dX10_appendText_9 rfl ?_
  refine mj_icmp_le 26 dX10_appendText_12 (by decide) (fun c_12 => ?_) (fun c_12 => ?_)
  · refine mj_bipush (v := (24)) dX10_appendText_26 rfl ?_
    refine mj_istore_n (ls' := [(2, _), (0, _), (1, _)]) dX10_appendText_28 (Nat.le_of_ble_eq_true rfl) rfl ?_
    exact mj_ls [0, 1, 2] rfl (loop 4 (pT P) (pL P) h (by omega) (by omega) rfl tx Off.rf)
  · exact absurd ((nI_leI (a := pL P + 4) (b := 600) (by omega) (by omega)).mpr hb) c_12
def p_load (P : CS) (Kx : KS) (Sp : BS) : CS := (if (k_read (pT P) (pL P) Kx Sp).1 = -1 then pB P else (k_read (pT P) (pL P) Kx Sp).2.2, pV P, pT P, 0, kfc (k_read (pT P) (pL P) Kx Sp).2.1, kfp (k_read (pT P) (pL P) Kx Sp).2.1)
/-- the cells of the other side stay -/
def OffS (c : Nat) (h h' : MH) : Prop := ∀ q, c + 176 ≤ q → q < c + 193 → h' q = h q
theorem OffC.s {c : Nat} {h h' : MH} (o : OffC c h h') : OffS c h h' := fun q h1 _ => o q (by omega)
set_option maxRecDepth 100000 in
set_option maxHeartbeats 4000000 in
theorem cn_X10_load {K : KX} {n : Nat} {h : MH} {c : Nat} {P : CS} (x : Cp h n c P) : Con K mX10_load [.ref c] 0 0 n h (fun r9 n9 h' => ∃ Kx Sp, r9 = .inl (some (.int (k_read (pT P) (pL P) Kx Sp).1)) ∧ n9 = n ∧ Cp h' n c (p_load P Kx Sp) ∧ OffS c h h') := by
  obtain ⟨ba, sa, Sp, S, H, A, V, Kx, x, xfc, xfp⟩ := x
  obtain ⟨c0, bd, sp, sv, ins, pf, mt, sh, tx, rd, ad, nn⟩ := id x
  have b0 := bd.1
  have b5 := bd.2.2.2.2.2.1
  have b6 := bd.2.2.2.2.2.2
  have adr := x.adr
  have sad : c + 1 ≤ sa ∧ sa + 71 ≤ c + 143 := by omega
  have sba : sa + 71 ≤ ba ∨ ba + 71 ≤ sa := by omega
  have rd0 := rd.1
  refine Con.of (by decide +kernel) (Nat.le_of_ble_eq_true rfl) ?_
  refine mj_aload_n 0 dX10_load_0 rfl ?_
  refine mj_getf dX10_load_1 fgX10_61 (by repeat (first | assumption | exact mup_s _ _ _ | rw [mup_n _ _ (by omega)])) rfl ?_
  refine mj_aload_n 0 dX10_load_4 rfl ?_
  refine mj_getf dX10_load_5 fgX10_54 (by repeat (first | assumption | exact mup_s _ _ _ | rw [mup_n _ _ (by omega)])) rfl ?_
  refine mj_aload_n 0 dX10_load_8 rfl ?_
  refine mj_getf dX10_load_9 fgX10_16 (by repeat (first | assumption | exact mup_s _ _ _ | rw [mup_n _ _ (by omega)])) rfl ?_
  refine mj_cV1 [_, _] (RX7, TX7, 7) dX10_load_12 cwX7_read lkX10_297 (rd.1) rfl rfl rfl rfl (cn_X7_read tx rd (by omega) sp (by omega) (by omega)) ⟨Nat.le_of_ble_eq_true rfl, Nat.le_of_ble_eq_true rfl, Nat.le_of_ble_eq_true rfl, Nat.le_of_ble_eq_true rfl, Nat.le_of_ble_eq_true rfl⟩ (fun h' e' => ?_)
  obtain ⟨rd8, sp8, o8⟩ := e'
  have c08 : h' c = some (cpC c ba sa) := (o8 _ (by omega) (by omega)).trans c0
  have tx8 : Tx h' (c + 172) (pT P) (pL P) := tx.at fun q h1 h2 => o8 q (by omega) (by omega)
  have tx80 := tx8.1
  have x8 : CpX h' n c ba sa (pB P) _ (pV P) S H A V (pT P) (pL P) _ := ⟨c08, bd.at fun q h1 h2 => o8 q (by omega) (by omega), sp8, sv.at fun q h1 => o8 q (by omega) (by omega), ins.at fun q h1 h2 => o8 q (by omega) (by omega), pf.at fun q h1 h2 => o8 q (by omega) (by omega), mt.at fun q h1 h2 => o8 q (by omega) (by omega), sh.at fun q h1 h2 => o8 q (by omega) (by omega), tx8, rd8, ad, nn⟩
  refine mj_istore_n (ls' := [(1, _), (0, _)]) dX10_load_15 (Nat.le_of_ble_eq_true rfl) rfl ?_
  refine mj_aload_n 1 dX10_load_16 rfl ?_
  refine mj_getf dX10_load_17 fgX10_54 (by repeat (first | assumption | exact mup_s _ _ _ | rw [mup_n _ _ (by omega)])) rfl ?_
  refine mj_iconst (v := 0) dX10_load_20 rfl ?_
  refine mj_putf dX10_load_21 fgX10_287 (by repeat (first | assumption | exact mup_s _ _ _ | rw [mup_n _ _ (by omega)])) rfl rfl rfl (Nat.le_of_ble_eq_true rfl) rfl ?_
  have x7 := x8.tx (h' := mup h' (c + 172) (cO 8 [.ref (c + 172 + 1), .int 0])) (T' := pT P) (tl' := 0) ⟨mup_s _ _ _, (mup_n _ _ (by omega)).trans tx8.2.1, Nat.zero_le _⟩ (Off.m0 _ (by omega) (by omega))
  have c07 := x7.1
  refine mj_iload_n 0 dX10_load_24 rfl ?_
  refine mj_iconst (v := (-1)) dX10_load_25 rfl ?_
  refine mj_icmp_eq 47 dX10_load_26 (by decide) (fun c_26 => ?_) (fun c_26 => ?_)
  · refine mj_iload_n 0 dX10_load_47 rfl ?_
    exact mj_iret dX10_load_48 rfl (Nat.le_of_ble_eq_true rfl) (Nat.le_of_ble_eq_true rfl) ⟨Kx, Sp, rfl, rfl, ⟨ba, sa, _, S, H, A, V, _, by unfold p_load; rw [if_pos c_26]; exact x7, rfl, rfl⟩, fun q h1 h2 => (mup_n _ _ (by omega)).trans (o8 q (by omega) (by omega))⟩
  · refine mj_aload_n 1 dX10_load_29 rfl ?_
    refine mj_getf dX10_load_30 fgX10_12 (by repeat (first | assumption | exact mup_s _ _ _ | rw [mup_n _ _ (by omega)])) rfl ?_
    refine mj_astore_n (ls' := [(2, _), (1, _), (0, _)]) dX10_load_33 (Nat.le_of_ble_eq_true rfl) rfl ?_
    refine mj_aload_n 2 dX10_load_34 rfl ?_
    refine mj_aload_n 2 dX10_load_35 rfl ?_
    refine mj_getf dX10_load_36 fgX10_16 (by repeat (first | assumption | exact mup_s _ _ _ | rw [mup_n _ _ (by omega)])) rfl ?_
    refine mj_putf dX10_load_39 fgX10_12 (by repeat (first | assumption | exact mup_s _ _ _ | rw [mup_n _ _ (by omega)])) rfl rfl rfl (Nat.le_of_ble_eq_true rfl) rfl ?_
    refine mj_aload_n 2 dX10_load_42 rfl ?_
    refine mj_aload_n 0 dX10_load_43 rfl ?_
    refine mj_putf dX10_load_44 fgX10_16 (by repeat (first | assumption | exact mup_s _ _ _ | rw [mup_n _ _ (by omega)])) rfl rfl rfl (Nat.le_of_ble_eq_true rfl) rfl ?_
    obtain ⟨-, bd7, sp7, sv7, ins7, pf7, mt7, sh7, tx7, rd7, ad7, nn7⟩ := x7
    have oo : Off c (c + 1) (mup h' (c + 172) (cO 8 [.ref (c + 172 + 1), .int 0])) (mup (mup (mup h' (c + 172) (cO 8 [.ref (c + 172 + 1), .int 0])) c (cpC c sa sa)) c (cpC c sa ba)) := (Off.m0 _ (by omega) (by omega)).m _ (by omega) (by omega)
    have x6 : CpX (mup (mup (mup h' (c + 172) (cO 8 [.ref (c + 172 + 1), .int 0])) c (cpC c sa sa)) c (cpC c sa ba)) n c sa ba _ _ (pV P) S H A V (pT P) 0 _ := ⟨mup_s _ _ _, sp7.off oo (by omega), bd7.off oo (by omega), sv7.at fun q h1 => oo q (by omega), ins7.at fun q h1 h2 => oo q (by omega), pf7.off oo (by omega), mt7.off oo (by omega), sh7.off oo (by omega), tx7.off oo (by omega), rd7.off oo (by omega), by omega, nn7⟩
    refine mj_iload_n 1 dX10_load_47 rfl ?_
    exact mj_iret dX10_load_48 rfl (Nat.le_of_ble_eq_true rfl) (Nat.le_of_ble_eq_true rfl) ⟨Kx, Sp, rfl, rfl, ⟨sa, ba, _, S, H, A, V, _, by unfold p_load; rw [if_neg c_26]; exact x6, rfl, rfl⟩, fun q h1 h2 => (oo q (by omega)).trans ((mup_n _ _ (by omega)).trans (o8 q (by omega) (by omega)))⟩
set_option maxRecDepth 100000 in
set_option maxHeartbeats 4000000 in
theorem cn_X10_checkSlot_no {K : KX} {n : Nat} {h : MH} {v : Int32} (hb : b_in v 0 1 = false) : Con K mX10_checkSlot [.int v] 1 6 n h (Thr "java/lang/IllegalArgumentException" n h) := by
  refine Con.of (by decide +kernel) (Nat.le_of_ble_eq_true rfl) ?_
  refine mj_iload_n 0 dX10_checkSlot_0 rfl ?_
  refine mj_iconst (v := 0) dX10_checkSlot_1 rfl ?_
  refine mj_iconst (v := 1) dX10_checkSlot_2 rfl ?_
  refine mj_cS1 [_, _, _] dX10_checkSlot_3 cwX10_isWithin lkX10_65 rfl (cn_X10_isWithin _ _ _) ⟨Nat.le_of_ble_eq_true rfl, Nat.le_of_ble_eq_true rfl, Nat.le_of_ble_eq_true rfl, Nat.le_of_ble_eq_true rfl, Nat.le_of_ble_eq_true rfl⟩ (fun h' e' => ?_)
  subst h'
  refine mj_if_ne 20 dX10_checkSlot_6 (by decide) (fun c_6 => ?_) (fun c_6 => ?_)
  · exact absurd (hb.symm.trans (bI_n0.mp c_6)) (by decide)
  · exact mj_throwSW (text := "there is no such slot") dX10_checkSlot_9 dX10_checkSlot_12 dX10_checkSlot_13 dX10_checkSlot_16 dX10_checkSlot_19 thX10_69_73 (show (("Carpool", 315, "there is no such slot") : String × Nat × String) ∈ strK by decide +kernel) rfl (Nat.le_of_ble_eq_true rfl) (Nat.le_of_ble_eq_true rfl) (Nat.le_of_ble_eq_true rfl) (Nat.le_of_ble_eq_true rfl) (fun n9 h9 => ⟨rfl, h9, rfl⟩)
set_option maxRecDepth 100000 in
set_option maxHeartbeats 4000000 in
theorem cn_X10_checkSlot {K : KX} {n : Nat} {h : MH} {v : Int32} (hb : b_in v 0 1 = true) : Con K mX10_checkSlot [.int v] 0 0 n h (Ret none n h) := by
  refine Con.of (by decide +kernel) (Nat.le_of_ble_eq_true rfl) ?_
  refine mj_iload_n 0 dX10_checkSlot_0 rfl ?_
  refine mj_iconst (v := 0) dX10_checkSlot_1 rfl ?_
  refine mj_iconst (v := 1) dX10_checkSlot_2 rfl ?_
  refine mj_cS1 [_, _, _] dX10_checkSlot_3 cwX10_isWithin lkX10_65 rfl (cn_X10_isWithin _ _ _) ⟨Nat.le_of_ble_eq_true rfl, Nat.le_of_ble_eq_true rfl, Nat.le_of_ble_eq_true rfl, Nat.le_of_ble_eq_true rfl, Nat.le_of_ble_eq_true rfl⟩ (fun h' e' => ?_)
  subst h'
  refine mj_if_ne 20 dX10_checkSlot_6 (by decide) (fun c_6 => ?_) (fun c_6 => ?_)
  · exact mj_vret dX10_checkSlot_20 rfl (Nat.le_of_ble_eq_true rfl) (Nat.le_of_ble_eq_true rfl) ⟨rfl, rfl, rfl⟩
  · exact absurd (hb.symm.trans (bI_0.mp c_6)) (by decide)
theorem bin_01 {i : Int32} : b_in i 0 1 = true ↔ ∃ j : Nat, j < 2 ∧ i = nI j := by
  have e : b_in i 0 1 = b_in i 0 (nI 2 - 1) := rfl
  rw [e]
  exact bin_ix (by omega)
def p_setV (P : CS) (i s : Nat) (D : BS) : CS := (pB P, fun j => if j = i then some (s, D) else pV P j, pT P, pL P, pfc P, pfp P)
set_option maxRecDepth 100000 in
set_option maxHeartbeats 4000000 in
theorem cn_X10_save_no {K : KX} {n : Nat} {h : MH} {c : Nat} {P : CS} (x : Cp h n c P) {v : Int32} (hb : b_in v 0 1 = false) : Con K mX10_save [.ref c, .int v] 1 6 n h (Thr "java/lang/IllegalArgumentException" n h) := by
  obtain ⟨ba, sa, Sp, S, H, A, V, Kx, x, xfc, xfp⟩ := x
  obtain ⟨c0, bd, sp, sv, ins, pf, mt, sh, tx, rd, ad, nn⟩ := id x
  have b0 := bd.1
  have b5 := bd.2.2.2.2.2.1
  have b6 := bd.2.2.2.2.2.2
  have adr := x.adr
  refine Con.of (by decide +kernel) (Nat.le_of_ble_eq_true rfl) ?_
  refine mj_iload_n 1 dX10_save_0 rfl ?_
  exact mj_tS [_] dX10_save_1 cwX10_checkSlot lkX10_306 rfl rfl (cn_X10_checkSlot_no hb) ⟨Nat.le_of_ble_eq_true rfl, Nat.le_of_ble_eq_true rfl, Nat.le_of_ble_eq_true rfl, Nat.le_of_ble_eq_true rfl, Nat.le_of_ble_eq_true rfl⟩ (fun n9 h9 q1 q2 => ⟨rfl, q1, q2⟩)
set_option maxRecDepth 100000 in
set_option maxHeartbeats 4000000 in
theorem cn_X10_restore_no {K : KX} {n : Nat} {h : MH} {c : Nat} {P : CS} (x : Cp h n c P) {v : Int32} (hb : b_in v 0 1 = false) : Con K mX10_restore [.ref c, .int v] 1 6 n h (Thr "java/lang/IllegalArgumentException" n h) := by
  obtain ⟨ba, sa, Sp, S, H, A, V, Kx, x, xfc, xfp⟩ := x
  obtain ⟨c0, bd, sp, sv, ins, pf, mt, sh, tx, rd, ad, nn⟩ := id x
  have b0 := bd.1
  have b5 := bd.2.2.2.2.2.1
  have b6 := bd.2.2.2.2.2.2
  have adr := x.adr
  refine Con.of (by decide +kernel) (Nat.le_of_ble_eq_true rfl) ?_
  refine mj_iload_n 1 dX10_restore_0 rfl ?_
  exact mj_tS [_] dX10_restore_1 cwX10_checkSlot lkX10_306 rfl rfl (cn_X10_checkSlot_no hb) ⟨Nat.le_of_ble_eq_true rfl, Nat.le_of_ble_eq_true rfl, Nat.le_of_ble_eq_true rfl, Nat.le_of_ble_eq_true rfl, Nat.le_of_ble_eq_true rfl⟩ (fun n9 h9 q1 q2 => ⟨rfl, q1, q2⟩)
set_option maxRecDepth 100000 in
set_option maxHeartbeats 4000000 in
theorem cn_X10_restore_none {K : KX} {n : Nat} {h : MH} {c : Nat} {P : CS} (x : Cp h n c P) {v : Int32} {i : Nat} (hv : v = nI i) (h2 : i < 2) (hs : pV P i = none) : Con K mX10_restore [.ref c, .int v] 1 6 n h (Thr "java/lang/IllegalStateException" n h) := by
  obtain ⟨ba, sa, Sp, S, H, A, V, Kx, x, xfc, xfp⟩ := x
  obtain ⟨c0, bd, sp, sv, ins, pf, mt, sh, tx, rd, ad, nn⟩ := id x
  have b0 := bd.1
  have b5 := bd.2.2.2.2.2.1
  have b6 := bd.2.2.2.2.2.2
  have adr := x.adr
  have hb : b_in v 0 1 = true := bin_01.mpr ⟨i, h2, hv⟩
  have hvi : v.toInt = (i : Int) := by rw [hv]; exact ixn (by omega)
  obtain ⟨⟨fs, v0, v1⟩, v2, v3⟩ := id sv
  refine Con.of (by decide +kernel) (Nat.le_of_ble_eq_true rfl) ?_
  refine mj_iload_n 1 dX10_restore_0 rfl ?_
  refine mj_cS0 [_] dX10_restore_1 cwX10_checkSlot lkX10_306 rfl (cn_X10_checkSlot hb) ⟨Nat.le_of_ble_eq_true rfl, Nat.le_of_ble_eq_true rfl, Nat.le_of_ble_eq_true rfl, Nat.le_of_ble_eq_true rfl, Nat.le_of_ble_eq_true rfl⟩ (fun h' e' => ?_)
  subst h'
  refine mj_aload_n 0 dX10_restore_4 rfl ?_
  refine mj_getf dX10_restore_5 fgX10_19 (by repeat (first | assumption | exact mup_s _ _ _ | rw [mup_n _ _ (by omega)])) rfl ?_
  refine mj_iload_n 1 dX10_restore_8 rfl ?_
  refine mj_aaldB v0 hvi h2 dX10_restore_9 ?_
  rw [v1 i h2, show (pV P i).map (fun y => y.1) = none by rw [hs]; rfl]
  refine mj_astore_nN (ls' := [(2, _), (0, _), (1, _)]) dX10_restore_10 (Nat.le_of_ble_eq_true rfl) rfl ?_
  refine mj_aload_nN 0 dX10_restore_11 rfl ?_
  refine mj_ifnonnullN dX10_restore_12 ?_
  exact mj_throwSW (text := "nothing is saved there") dX10_restore_15 dX10_restore_18 dX10_restore_19 dX10_restore_22 dX10_restore_25 thX10_80_84 (show (("Carpool", 313, "nothing is saved there") : String × Nat × String) ∈ strK by decide +kernel) rfl (Nat.le_of_ble_eq_true rfl) (Nat.le_of_ble_eq_true rfl) (Nat.le_of_ble_eq_true rfl) (Nat.le_of_ble_eq_true rfl) (fun n9 h9 => ⟨rfl, h9, rfl⟩)
set_option maxRecDepth 100000 in
set_option maxHeartbeats 4000000 in
theorem cn_X10_restore {K : KX} {n : Nat} {h : MH} {c : Nat} {P : CS} (x : Cp h n c P) {v : Int32} {i : Nat} (hv : v = nI i) (h2 : i < 2) {s : Nat} {D : BS} (hs : pV P i = some (s, D)) : Con K mX10_restore [.ref c, .int v] 0 0 n h (RetP none n (fun h' => ∃ B', Beq D B' ∧ CpE h h' n c (p_setB P B'))) := by
  obtain ⟨ba, sa, Sp, S, H, A, V, Kx, x, xfc, xfp⟩ := x
  obtain ⟨c0, bd, sp, sv, ins, pf, mt, sh, tx, rd, ad, nn⟩ := id x
  have b0 := bd.1
  have b5 := bd.2.2.2.2.2.1
  have b6 := bd.2.2.2.2.2.2
  have adr := x.adr
  have hb : b_in v 0 1 = true := bin_01.mpr ⟨i, h2, hv⟩
  have hvi : v.toInt = (i : Int) := by rw [hv]; exact ixn (by omega)
  obtain ⟨⟨fs, v0, v1⟩, v2, v3⟩ := id sv
  obtain ⟨w1, w2, w3⟩ := v2 i h2 s D hs
  refine Con.of (by decide +kernel) (Nat.le_of_ble_eq_true rfl) ?_
  refine mj_iload_n 1 dX10_restore_0 rfl ?_
  refine mj_cS0 [_] dX10_restore_1 cwX10_checkSlot lkX10_306 rfl (cn_X10_checkSlot hb) ⟨Nat.le_of_ble_eq_true rfl, Nat.le_of_ble_eq_true rfl, Nat.le_of_ble_eq_true rfl, Nat.le_of_ble_eq_true rfl, Nat.le_of_ble_eq_true rfl⟩ (fun h' e' => ?_)
  subst h'
  refine mj_aload_n 0 dX10_restore_4 rfl ?_
  refine mj_getf dX10_restore_5 fgX10_19 (by repeat (first | assumption | exact mup_s _ _ _ | rw [mup_n _ _ (by omega)])) rfl ?_
  refine mj_iload_n 1 dX10_restore_8 rfl ?_
  refine mj_aaldB v0 hvi h2 dX10_restore_9 ?_
  rw [v1 i h2, show (pV P i).map (fun y => y.1) = some s by rw [hs]; rfl]
  refine mj_astore_n (ls' := [(2, _), (0, _), (1, _)]) dX10_restore_10 (Nat.le_of_ble_eq_true rfl) rfl ?_
  refine mj_aload_n 0 dX10_restore_11 rfl ?_
  refine mj_ifnonnull 26 dX10_restore_12 (by decide) ?_
  refine mj_aload_n 1 dX10_restore_26 rfl ?_
  refine mj_getf dX10_restore_27 fgX10_12 (by repeat (first | assumption | exact mup_s _ _ _ | rw [mup_n _ _ (by omega)])) rfl ?_
  refine mj_aload_n 0 dX10_restore_30 rfl ?_
  refine mj_cV0 [_] (RX0, TX0, 5) dX10_restore_31 cwX0_copyFrom lkX10_309 b0 rfl rfl rfl rfl (cn_X0_copyFrom bd w1 (by omega)) ⟨Nat.le_of_ble_eq_true rfl, Nat.le_of_ble_eq_true rfl, Nat.le_of_ble_eq_true rfl, Nat.le_of_ble_eq_true rfl, Nat.le_of_ble_eq_true rfl⟩ (fun h' e' => ?_)
  obtain ⟨B8, bd8, be, o8⟩ := e'
  exact mj_vret dX10_restore_34 rfl (Nat.le_of_ble_eq_true rfl) (Nat.le_of_ble_eq_true rfl) ⟨rfl, rfl, ⟨B8, be, ⟨ba, sa, Sp, S, H, A, V, Kx, x.bd bd8 (ins.at fun q h1 h2 => o8 q (by omega)) (pf.off o8 (by omega)) (mt.off o8 (by omega)) (sh.off o8 (by omega)) o8.to1, xfc, xfp⟩, o8.toC (by omega) (by omega)⟩⟩
theorem SvOk.put {h h' : MH} {n n' c i s : Nat} {sv : Nat → Option (Nat × BS)} {D : BS} {f : Nat → Option Nat} (x : SvOk h n c sv) (h2 : i < 2) (hf : h' (c + 143) = some (cQ 3 2 f)) (hf2 : ∀ j, j < 2 → f j = if j = i then some s else (sv j).map (fun y => y.1)) (e : Bd h' s D) (h3 : c + 193 ≤ s) (h4 : s + 71 ≤ n') (h5 : n ≤ n') (o : ∀ j, j < 2 → j ≠ i → ∀ s' D', sv j = some (s', D') → (s' + 71 ≤ s ∨ s + 71 ≤ s') ∧ ∀ q, s' ≤ q → q < s' + 71 → h' q = h q) : SvOk h' n' c (fun j => if j = i then some (s, D) else sv j) := by
  obtain ⟨⟨g, g0, g1⟩, g2, g3⟩ := x
  refine ⟨⟨f, hf, fun j hj => ?_⟩, fun j hj s' D' hs => ?_, fun s1 D1 s2 D2 h8 h9 => ?_⟩
  · rw [hf2 j hj]
    dsimp only
    by_cases q : j = i
    · rw [if_pos q, if_pos q]
      rfl
    · rw [if_neg q, if_neg q]
  · dsimp only at hs
    by_cases q : j = i
    · rw [if_pos q] at hs
      cases hs
      exact ⟨e, h3, h4⟩
    · rw [if_neg q] at hs
      obtain ⟨y1, y2, y3⟩ := g2 j hj s' D' hs
      exact ⟨y1.at (o j hj q s' D' hs).2, y2, by omega⟩
  · dsimp only at h8 h9
    by_cases q0 : 0 = i
    · rw [if_pos q0] at h8
      rw [if_neg (by omega)] at h9
      cases h8
      have := (o 1 (by omega) (by omega) s2 D2 h9).1
      omega
    · rw [if_neg q0] at h8
      by_cases q1 : 1 = i
      · rw [if_pos q1] at h9
        cases h9
        exact (o 0 (by omega) (by omega) s1 D1 h8).1
      · omega
set_option maxRecDepth 100000 in
set_option maxHeartbeats 4000000 in
theorem cn_X10_save {K : KX} {n : Nat} {h : MH} {c : Nat} {P : CS} (x : Cp h n c P) {v : Int32} {i : Nat} (hv : v = nI i) (h2 : i < 2) {s : Nat} {D : BS} (hs : pV P i = some (s, D)) : Con K mX10_save [.ref c, .int v] 0 0 n h (RetP none n (fun h' => ∃ D', Beq (pB P) D' ∧ Cp h' n c (p_setV P i s D') ∧ OffS c h h')) := by
  obtain ⟨ba, sa, Sp, S, H, A, V, Kx, x, xfc, xfp⟩ := x
  obtain ⟨c0, bd, sp, sv, ins, pf, mt, sh, tx, rd, ad, nn⟩ := id x
  have b0 := bd.1
  have b5 := bd.2.2.2.2.2.1
  have b6 := bd.2.2.2.2.2.2
  have adr := x.adr
  have hb : b_in v 0 1 = true := bin_01.mpr ⟨i, h2, hv⟩
  have hvi : v.toInt = (i : Int) := by rw [hv]; exact ixn (by omega)
  obtain ⟨⟨fs, v0, v1⟩, v2, v3⟩ := id sv
  obtain ⟨w1, w2, w3⟩ := v2 i h2 s D hs
  have w0 := w1.1
  refine Con.of (by decide +kernel) (Nat.le_of_ble_eq_true rfl) ?_
  refine mj_iload_n 1 dX10_save_0 rfl ?_
  refine mj_cS0 [_] dX10_save_1 cwX10_checkSlot lkX10_306 rfl (cn_X10_checkSlot hb) ⟨Nat.le_of_ble_eq_true rfl, Nat.le_of_ble_eq_true rfl, Nat.le_of_ble_eq_true rfl, Nat.le_of_ble_eq_true rfl, Nat.le_of_ble_eq_true rfl⟩ (fun h' e' => ?_)
  subst h'
  refine mj_aload_n 0 dX10_save_4 rfl ?_
  refine mj_getf dX10_save_5 fgX10_19 (by repeat (first | assumption | exact mup_s _ _ _ | rw [mup_n _ _ (by omega)])) rfl ?_
  refine mj_iload_n 1 dX10_save_8 rfl ?_
  refine mj_aaldB v0 hvi h2 dX10_save_9 ?_
  rw [v1 i h2, show (pV P i).map (fun y => y.1) = some s by rw [hs]; rfl]
  refine mj_astore_n (ls' := [(2, _), (0, _), (1, _)]) dX10_save_10 (Nat.le_of_ble_eq_true rfl) rfl ?_
  refine mj_aload_n 0 dX10_save_11 rfl ?_
  refine mj_ifnonnull 30 dX10_save_12 (by decide) ?_
  refine mj_aload_n 0 dX10_save_30 rfl ?_
  refine mj_aload_n 1 dX10_save_31 rfl ?_
  refine mj_getf dX10_save_32 fgX10_12 (by repeat (first | assumption | exact mup_s _ _ _ | rw [mup_n _ _ (by omega)])) rfl ?_
  refine mj_cV0 [_] (RX0, TX0, 5) dX10_save_35 cwX0_copyFrom lkX10_309 (w1.1) rfl rfl rfl rfl (cn_X0_copyFrom w1 bd (by omega)) ⟨Nat.le_of_ble_eq_true rfl, Nat.le_of_ble_eq_true rfl, Nat.le_of_ble_eq_true rfl, Nat.le_of_ble_eq_true rfl, Nat.le_of_ble_eq_true rfl⟩ (fun h' e' => ?_)
  obtain ⟨D8, w8, be, o8⟩ := e'
  have ds : ∀ j, j < 2 → j ≠ i → ∀ s' D', pV P j = some (s', D') → (s' + 71 ≤ s ∨ s + 71 ≤ s') := fun j hj hji s' D' hs' => by
    by_cases q0 : i = 0
    · subst q0
      obtain rfl : j = 1 := by omega
      have := v3 _ _ _ _ hs hs'
      omega
    · obtain rfl : i = 1 := by omega
      obtain rfl : j = 0 := by omega
      exact v3 _ _ _ _ hs' hs
  exact mj_vret dX10_save_38 rfl (Nat.le_of_ble_eq_true rfl) (Nat.le_of_ble_eq_true rfl) ⟨rfl, rfl, ⟨D8, be, ⟨ba, sa, Sp, S, H, A, V, Kx, ⟨o8.at c0 (by omega), bd.off o8 (by omega), sp.off o8 (by omega), sv.put (f := fs) h2 (o8.at v0 (by omega)) (fun j hj => by rw [v1 j hj]; by_cases q : j = i; (rw [if_pos q, q, hs]; rfl); (rw [if_neg q])) w8 w2 w3 (Nat.le_refl _) (fun j hj hji s' D' hs' => ⟨ds j hj hji s' D' hs', fun q h1 h3 => o8 q (by have := ds j hj hji s' D' hs'; omega)⟩), ins.at fun q h1 h2 => o8 q (by omega), pf.off o8 (by omega), mt.off o8 (by omega), sh.off o8 (by omega), tx.off o8 (by omega), rd.off o8 (by omega), ad, nn⟩, xfc, xfp⟩, fun q h1 h3 => o8 q (by omega)⟩⟩
set_option maxRecDepth 100000 in
set_option maxHeartbeats 4000000 in
theorem cn_X10_save_new {K : KX} {n : Nat} {h : MH} {c : Nat} {P : CS} (x : Cp h n c P) {v : Int32} {i : Nat} (hv : v = nI i) (h2 : i < 2) (hn : c + 193 ≤ n) (hs : pV P i = none) : Con K mX10_save [.ref c, .int v] 71 1681 n h (RetP none (n + 71) (fun h' => ∃ D', Beq (pB P) D' ∧ Cp h' (n + 71) c (p_setV P i n D') ∧ OffS c h h')) := by
  obtain ⟨ba, sa, Sp, S, H, A, V, Kx, x, xfc, xfp⟩ := x
  obtain ⟨c0, bd, sp, sv, ins, pf, mt, sh, tx, rd, ad, nn⟩ := id x
  have b0 := bd.1
  have b5 := bd.2.2.2.2.2.1
  have b6 := bd.2.2.2.2.2.2
  have adr := x.adr
  have hb : b_in v 0 1 = true := bin_01.mpr ⟨i, h2, hv⟩
  have hvi : v.toInt = (i : Int) := by rw [hv]; exact ixn (by omega)
  obtain ⟨⟨fs, v0, v1⟩, v2, v3⟩ := id sv
  refine Con.of (by decide +kernel) (Nat.le_of_ble_eq_true rfl) ?_
  refine mj_iload_n 1 dX10_save_0 rfl ?_
  refine mj_cS0 [_] dX10_save_1 cwX10_checkSlot lkX10_306 rfl (cn_X10_checkSlot hb) ⟨Nat.le_of_ble_eq_true rfl, Nat.le_of_ble_eq_true rfl, Nat.le_of_ble_eq_true rfl, Nat.le_of_ble_eq_true rfl, Nat.le_of_ble_eq_true rfl⟩ (fun h' e' => ?_)
  subst h'
  refine mj_aload_n 0 dX10_save_4 rfl ?_
  refine mj_getf dX10_save_5 fgX10_19 (by repeat (first | assumption | exact mup_s _ _ _ | rw [mup_n _ _ (by omega)])) rfl ?_
  refine mj_iload_n 1 dX10_save_8 rfl ?_
  refine mj_aaldB v0 hvi h2 dX10_save_9 ?_
  rw [v1 i h2, show (pV P i).map (fun y => y.1) = none by rw [hs]; rfl]
  refine mj_astore_nN (ls' := [(2, _), (0, _), (1, _)]) dX10_save_10 (Nat.le_of_ble_eq_true rfl) rfl ?_
  refine mj_aload_nN 0 dX10_save_11 rfl ?_
  refine mj_ifnonnullN dX10_save_12 ?_
  refine mj_new (N := 5) (fs := [.null, .null, .int 0, .int 0, .int 0]) dX10_save_15 nfX10_9 (fun j hj => by match j, hj with | 0, _ => rfl | 1, _ => rfl | 2, _ => rfl | 3, _ => rfl | 4, _ => rfl | j + 5, h9 => exact absurd h9 (by omega)) (Nat.le_of_ble_eq_true rfl) (Nat.le_of_ble_eq_true rfl) ?_
  refine mj_dup dX10_save_18 rfl ?_
  refine mj_cI0 [] dX10_save_19 cwX0_init lkX10_11 rfl rfl (cn_X0_init rfl (mup_s _ _ _)) ⟨Nat.le_of_ble_eq_true rfl, Nat.le_of_ble_eq_true rfl, Nat.le_of_ble_eq_true rfl, Nat.le_of_ble_eq_true rfl, Nat.le_of_ble_eq_true rfl⟩ (fun h' e' => ?_)
  obtain ⟨D1, w1, -, o1⟩ := e'
  have o2 : Off n (n + 71) h h' := (Off.m0 _ (by omega) (by omega)).tr o1
  have c01 := o2.at c0 (by omega)
  have v01 := o2.at v0 (by omega)
  have w10 := w1.1
  have bd1 := bd.off o2 (by omega)
  refine mj_astore_n (ls' := [(2, _), (0, _), (1, _)]) dX10_save_22 (Nat.le_of_ble_eq_true rfl) rfl ?_
  refine mj_aload_n 1 dX10_save_23 rfl ?_
  refine mj_getf dX10_save_24 fgX10_19 (by repeat (first | assumption | exact mup_s _ _ _ | rw [mup_n _ _ (by omega)])) rfl ?_
  refine mj_iload_n 2 dX10_save_27 rfl ?_
  refine mj_aload_n 0 dX10_save_28 rfl ?_
  refine mj_aastB v01 w10 hvi h2 dX10_save_29 ?_
  have oa : Off (c + 143) (c + 144) h' (mup h' (c + 143) (cQ 3 2 (va_up fs i (some n)))) := Off.m0 _ (by omega) (by omega)
  have w19 := w1.off oa (by omega)
  have bd19 := bd1.off oa (by omega)
  have c019 := oa.at c01 (by omega)
  have b019 := bd19.1
  refine mj_aload_n 0 dX10_save_30 rfl ?_
  refine mj_aload_n 1 dX10_save_31 rfl ?_
  refine mj_getf dX10_save_32 fgX10_12 (by repeat (first | assumption | exact mup_s _ _ _ | rw [mup_n _ _ (by omega)])) rfl ?_
  refine mj_cV0 [_] (RX0, TX0, 5) dX10_save_35 cwX0_copyFrom lkX10_309 (w19.1) rfl rfl rfl rfl (cn_X0_copyFrom w19 bd19 (by omega)) ⟨Nat.le_of_ble_eq_true rfl, Nat.le_of_ble_eq_true rfl, Nat.le_of_ble_eq_true rfl, Nat.le_of_ble_eq_true rfl, Nat.le_of_ble_eq_true rfl⟩ (fun h9 e' => ?_)
  obtain ⟨D8, w8, be, o8⟩ := e'
  exact mj_vret dX10_save_38 rfl (Nat.le_of_ble_eq_true rfl) (Nat.le_of_ble_eq_true rfl) ⟨rfl, rfl, ⟨D8, be, ⟨ba, sa, Sp, S, H, A, V, Kx, ⟨o8.at c019 (by omega), bd19.off o8 (by omega), ((sp.off o2 (by omega)).off oa (by omega)).off o8 (by omega), sv.put (f := va_up fs i (some n)) h2 (o8.at (mup_s _ _ _) (by omega)) (fun j hj => by unfold va_up; by_cases q : j = i; (rw [if_pos q, if_pos q]); (rw [if_neg q, if_neg q, v1 j hj])) w8 hn (Nat.le_refl _) (by omega) (fun j hj hji s' D' hs' => ⟨Or.inl (v2 j hj s' D' hs').2.2, fun q h1 h3 => by have z := v2 j hj s' D' hs'; exact ((o8 q (by omega)).trans (oa q (by omega))).trans (o2 q (by omega))⟩), ins.at fun q h1 h2 => ((o8 q (by omega)).trans (oa q (by omega))).trans (o2 q (by omega)), ((pf.off o2 (by omega)).off oa (by omega)).off o8 (by omega), ((mt.off o2 (by omega)).off oa (by omega)).off o8 (by omega), ((sh.off o2 (by omega)).off oa (by omega)).off o8 (by omega), ((tx.off o2 (by omega)).off oa (by omega)).off o8 (by omega), ((rd.off o2 (by omega)).off oa (by omega)).off o8 (by omega), ad, by omega⟩, xfc, xfp⟩, fun q h1 h3 => ((o8 q (by omega)).trans (oa q (by omega))).trans (o2 q (by omega))⟩⟩
def p_new (B : BS) : CS := (B, fun _ => none, fun _ => 0, 0, 0, -1)
set_option maxRecDepth 100000 in
set_option maxHeartbeats 4000000 in
theorem cn_X10_init {K : KX} {n : Nat} {h : MH} {c : Nat} (hn : n = c + 1) (x : h c = some (cO 10 [.null, .null, .null, .null, .null, .null, .null, .null, .null])) : Con K mX10_init [.ref c] 175 4757 n h (RetP none (n + 175) (fun h' => ∃ B, BZ B ∧ Cp h' (c + 176) c (p_new B) ∧ Off c (c + 176) h h')) := by
  refine Con.of (by decide +kernel) (Nat.le_of_ble_eq_true rfl) ?_
  subst hn
  refine mj_aload_n 0 dX10_init_0 rfl ?_
  refine mj_objInit dX10_init_1 mlX10_3 im_obj cd_obj (Nat.le_of_ble_eq_true rfl) (Nat.le_of_ble_eq_true rfl) ?_
  refine mj_aload_n 0 dX10_init_4 rfl ?_
  refine mj_new (N := 5) (fs := [.null, .null, .int 0, .int 0, .int 0]) dX10_init_5 nfX10_9 (fun j hj => by match j, hj with | 0, _ => rfl | 1, _ => rfl | 2, _ => rfl | 3, _ => rfl | 4, _ => rfl | j + 5, h9 => exact absurd h9 (by omega)) (Nat.le_of_ble_eq_true rfl) (Nat.le_of_ble_eq_true rfl) ?_
  refine mj_dup dX10_init_8 rfl ?_
  refine mj_cI0 [] dX10_init_9 cwX0_init lkX10_11 rfl rfl (cn_X0_init rfl (mup_s _ _ _)) ⟨Nat.le_of_ble_eq_true rfl, Nat.le_of_ble_eq_true rfl, Nat.le_of_ble_eq_true rfl, Nat.le_of_ble_eq_true rfl, Nat.le_of_ble_eq_true rfl⟩ (fun h' e' => ?_)
  obtain ⟨B1, b1, z1, o1⟩ := e'
  have k1 := o1.at (q := c) (show mup h (c + 1) _ c = _ from (mup_n _ _ (by omega)).trans x) (by omega)
  refine mj_putf dX10_init_12 fgX10_12 (by repeat (first | assumption | exact mup_s _ _ _ | rw [mup_n _ _ (by omega)])) rfl rfl rfl (Nat.le_of_ble_eq_true rfl) rfl ?_
  refine mj_aload_n 0 dX10_init_15 rfl ?_
  refine mj_new (N := 5) (fs := [.null, .null, .int 0, .int 0, .int 0]) dX10_init_16 nfX10_9 (fun j hj => by match j, hj with | 0, _ => rfl | 1, _ => rfl | 2, _ => rfl | 3, _ => rfl | 4, _ => rfl | j + 5, h9 => exact absurd h9 (by omega)) (Nat.le_of_ble_eq_true rfl) (Nat.le_of_ble_eq_true rfl) ?_
  refine mj_dup dX10_init_19 rfl ?_
  refine mj_cI0 [] dX10_init_20 cwX0_init lkX10_11 rfl rfl (cn_X0_init rfl (mup_s _ _ _)) ⟨Nat.le_of_ble_eq_true rfl, Nat.le_of_ble_eq_true rfl, Nat.le_of_ble_eq_true rfl, Nat.le_of_ble_eq_true rfl, Nat.le_of_ble_eq_true rfl⟩ (fun h' e' => ?_)
  obtain ⟨B2, b2, z2, o2⟩ := e'
  have k2 := o2.at (q := c) (by repeat (first | assumption | exact mup_s _ _ _ | rw [mup_n _ _ (by omega)])) (by omega)
  refine mj_putf dX10_init_23 fgX10_16 (by repeat (first | assumption | exact mup_s _ _ _ | rw [mup_n _ _ (by omega)])) rfl rfl rfl (Nat.le_of_ble_eq_true rfl) rfl ?_
  refine mj_aload_n 0 dX10_init_26 rfl ?_
  refine mj_iconst (v := 2) dX10_init_27 rfl ?_
  refine mj_newqB dX10_init_28 clX10_9 ao_B (show (2 : Int32).toInt = ((2 : Nat) : Int) from rfl) (by omega) (Nat.le_of_ble_eq_true rfl) (Nat.le_of_ble_eq_true rfl) ?_
  refine mj_putG dX10_init_31 ffX10_19 (by repeat (first | assumption | exact mup_s _ _ _ | rw [mup_n _ _ (by omega)])) rfl rfl (by intro r h9; cases h9; rfl) rfl rfl (Nat.le_of_ble_eq_true rfl) rfl ?_
  refine mj_aload_n 0 dX10_init_34 rfl ?_
  refine mj_new (N := 4) (fs := [.null, .null, .int 0, .int 0]) dX10_init_35 nfX10_23 (fun j hj => by match j, hj with | 0, _ => rfl | 1, _ => rfl | 2, _ => rfl | 3, _ => rfl | j + 4, h9 => exact absurd h9 (by omega)) (Nat.le_of_ble_eq_true rfl) (Nat.le_of_ble_eq_true rfl) ?_
  refine mj_dup dX10_init_38 rfl ?_
  refine mj_cI0 [] dX10_init_39 cwX2_init lkX10_25 rfl rfl (cn_X2_init rfl (mup_s _ _ _)) ⟨Nat.le_of_ble_eq_true rfl, Nat.le_of_ble_eq_true rfl, Nat.le_of_ble_eq_true rfl, Nat.le_of_ble_eq_true rfl, Nat.le_of_ble_eq_true rfl⟩ (fun h' e' => ?_)
  obtain ⟨i4, o4⟩ := e'
  have k4 := o4.at (q := c) (by repeat (first | assumption | exact mup_s _ _ _ | rw [mup_n _ _ (by omega)])) (by omega)
  refine mj_putG dX10_init_42 ffX10_26 (by repeat (first | assumption | exact mup_s _ _ _ | rw [mup_n _ _ (by omega)])) rfl rfl (by intro r h9; cases h9; rfl) rfl rfl (Nat.le_of_ble_eq_true rfl) rfl ?_
  refine mj_aload_n 0 dX10_init_45 rfl ?_
  refine mj_new (N := 1) (fs := [.null]) dX10_init_46 nfX10_30 (fun j hj => by match j, hj with | 0, _ => rfl | j + 1, h9 => exact absurd h9 (by omega)) (Nat.le_of_ble_eq_true rfl) (Nat.le_of_ble_eq_true rfl) ?_
  refine mj_dup dX10_init_49 rfl ?_
  refine mj_cI0 [] dX10_init_50 cwX4_init lkX10_32 rfl rfl (cn_X4_init rfl (mup_s _ _ _)) ⟨Nat.le_of_ble_eq_true rfl, Nat.le_of_ble_eq_true rfl, Nat.le_of_ble_eq_true rfl, Nat.le_of_ble_eq_true rfl, Nat.le_of_ble_eq_true rfl⟩ (fun h' e' => ?_)
  obtain ⟨S5, p5, o5⟩ := e'
  have k5 := o5.at (q := c) (by repeat (first | assumption | exact mup_s _ _ _ | rw [mup_n _ _ (by omega)])) (by omega)
  refine mj_putG dX10_init_53 ffX10_33 (by repeat (first | assumption | exact mup_s _ _ _ | rw [mup_n _ _ (by omega)])) rfl rfl (by intro r h9; cases h9; rfl) rfl rfl (Nat.le_of_ble_eq_true rfl) rfl ?_
  refine mj_aload_n 0 dX10_init_56 rfl ?_
  refine mj_new (N := 2) (fs := [.null, .null]) dX10_init_57 nfX10_37 (fun j hj => by match j, hj with | 0, _ => rfl | 1, _ => rfl | j + 2, h9 => exact absurd h9 (by omega)) (Nat.le_of_ble_eq_true rfl) (Nat.le_of_ble_eq_true rfl) ?_
  refine mj_dup dX10_init_60 rfl ?_
  refine mj_cI0 [] dX10_init_61 cwX3_init lkX10_39 rfl rfl (cn_X3_init rfl (mup_s _ _ _)) ⟨Nat.le_of_ble_eq_true rfl, Nat.le_of_ble_eq_true rfl, Nat.le_of_ble_eq_true rfl, Nat.le_of_ble_eq_true rfl, Nat.le_of_ble_eq_true rfl⟩ (fun h' e' => ?_)
  obtain ⟨H6, A6, m6, o6⟩ := e'
  have k6 := o6.at (q := c) (by repeat (first | assumption | exact mup_s _ _ _ | rw [mup_n _ _ (by omega)])) (by omega)
  refine mj_putG dX10_init_64 ffX10_40 (by repeat (first | assumption | exact mup_s _ _ _ | rw [mup_n _ _ (by omega)])) rfl rfl (by intro r h9; cases h9; rfl) rfl rfl (Nat.le_of_ble_eq_true rfl) rfl ?_
  refine mj_aload_n 0 dX10_init_67 rfl ?_
  refine mj_new (N := 4) (fs := [.null, .null, .null, .int 0]) dX10_init_68 nfX10_44 (fun j hj => by match j, hj with | 0, _ => rfl | 1, _ => rfl | 2, _ => rfl | 3, _ => rfl | j + 4, h9 => exact absurd h9 (by omega)) (Nat.le_of_ble_eq_true rfl) (Nat.le_of_ble_eq_true rfl) ?_
  refine mj_dup dX10_init_71 rfl ?_
  refine mj_cI0 [] dX10_init_72 cwX9_init lkX10_46 rfl rfl (cn_X9_init rfl (mup_s _ _ _)) ⟨Nat.le_of_ble_eq_true rfl, Nat.le_of_ble_eq_true rfl, Nat.le_of_ble_eq_true rfl, Nat.le_of_ble_eq_true rfl, Nat.le_of_ble_eq_true rfl⟩ (fun h' e' => ?_)
  obtain ⟨V7, s7, o7⟩ := e'
  have k7 := o7.at (q := c) (by repeat (first | assumption | exact mup_s _ _ _ | rw [mup_n _ _ (by omega)])) (by omega)
  refine mj_putG dX10_init_75 ffX10_47 (by repeat (first | assumption | exact mup_s _ _ _ | rw [mup_n _ _ (by omega)])) rfl rfl (by intro r h9; cases h9; rfl) rfl rfl (Nat.le_of_ble_eq_true rfl) rfl ?_
  refine mj_aload_n 0 dX10_init_78 rfl ?_
  refine mj_new (N := 2) (fs := [.null, .int 0]) dX10_init_79 nfX10_51 (fun j hj => by match j, hj with | 0, _ => rfl | 1, _ => rfl | j + 2, h9 => exact absurd h9 (by omega)) (Nat.le_of_ble_eq_true rfl) (Nat.le_of_ble_eq_true rfl) ?_
  refine mj_dup dX10_init_82 rfl ?_
  refine mj_cI0 [] dX10_init_83 cwX8_init lkX10_53 rfl rfl (cn_X8_init rfl (mup_s _ _ _)) ⟨Nat.le_of_ble_eq_true rfl, Nat.le_of_ble_eq_true rfl, Nat.le_of_ble_eq_true rfl, Nat.le_of_ble_eq_true rfl, Nat.le_of_ble_eq_true rfl⟩ (fun h' e' => ?_)
  obtain ⟨t8, o8⟩ := e'
  have k8 := o8.at (q := c) (by repeat (first | assumption | exact mup_s _ _ _ | rw [mup_n _ _ (by omega)])) (by omega)
  refine mj_putG dX10_init_86 ffX10_54 (by repeat (first | assumption | exact mup_s _ _ _ | rw [mup_n _ _ (by omega)])) rfl rfl (by intro r h9; cases h9; rfl) rfl rfl (Nat.le_of_ble_eq_true rfl) rfl ?_
  refine mj_aload_n 0 dX10_init_89 rfl ?_
  refine mj_new (N := 7) (fs := [.null, .int 0, .int 0, .int 0, .int 0, .int 0, .int 0]) dX10_init_90 nfX10_58 (fun j hj => by match j, hj with | 0, _ => rfl | 1, _ => rfl | 2, _ => rfl | 3, _ => rfl | 4, _ => rfl | 5, _ => rfl | 6, _ => rfl | j + 7, h9 => exact absurd h9 (by omega)) (Nat.le_of_ble_eq_true rfl) (Nat.le_of_ble_eq_true rfl) ?_
  refine mj_dup dX10_init_93 rfl ?_
  refine mj_cI0 [] dX10_init_94 cwX7_init lkX10_60 rfl rfl (cn_X7_init rfl (mup_s _ _ _)) ⟨Nat.le_of_ble_eq_true rfl, Nat.le_of_ble_eq_true rfl, Nat.le_of_ble_eq_true rfl, Nat.le_of_ble_eq_true rfl, Nat.le_of_ble_eq_true rfl⟩ (fun h' e' => ?_)
  obtain ⟨r9, o9⟩ := e'
  have k9 := o9.at (q := c) (by repeat (first | assumption | exact mup_s _ _ _ | rw [mup_n _ _ (by omega)])) (by omega)
  refine mj_putG dX10_init_97 ffX10_61 (by repeat (first | assumption | exact mup_s _ _ _ | rw [mup_n _ _ (by omega)])) rfl rfl (by intro r h9; cases h9; rfl) rfl rfl (Nat.le_of_ble_eq_true rfl) rfl ?_
  exact mj_vret dX10_init_100 rfl (Nat.le_of_ble_eq_true rfl) (Nat.le_of_ble_eq_true rfl) ⟨rfl, rfl, ⟨B1, z1, ⟨c + 1, c + 72, B2, S5, H6, A6, V7, (fun _ => 0, 0, -1, 0, 0, 0, 0), ⟨mup_s _ _ _, b1.at (fun q q1 q2 => (mup_n _ _ (by omega)).trans ((o9 q (by omega)).trans ((mup_n _ _ (by omega)).trans ((mup_n _ _ (by omega)).trans ((o8 q (by omega)).trans ((mup_n _ _ (by omega)).trans ((mup_n _ _ (by omega)).trans ((o7 q (by omega)).trans ((mup_n _ _ (by omega)).trans ((mup_n _ _ (by omega)).trans ((o6 q (by omega)).trans ((mup_n _ _ (by omega)).trans ((mup_n _ _ (by omega)).trans ((o5 q (by omega)).trans ((mup_n _ _ (by omega)).trans ((mup_n _ _ (by omega)).trans ((o4 q (by omega)).trans ((mup_n _ _ (by omega)).trans ((mup_n _ _ (by omega)).trans ((mup_n _ _ (by omega)).trans ((mup_n _ _ (by omega)).trans ((o2 q (by omega)).trans ((mup_n _ _ (by omega)).trans (mup_n _ _ (by omega))))))))))))))))))))))))), b2.at (fun q q1 q2 => (mup_n _ _ (by omega)).trans ((o9 q (by omega)).trans ((mup_n _ _ (by omega)).trans ((mup_n _ _ (by omega)).trans ((o8 q (by omega)).trans ((mup_n _ _ (by omega)).trans ((mup_n _ _ (by omega)).trans ((o7 q (by omega)).trans ((mup_n _ _ (by omega)).trans ((mup_n _ _ (by omega)).trans ((o6 q (by omega)).trans ((mup_n _ _ (by omega)).trans ((mup_n _ _ (by omega)).trans ((o5 q (by omega)).trans ((mup_n _ _ (by omega)).trans ((mup_n _ _ (by omega)).trans ((o4 q (by omega)).trans ((mup_n _ _ (by omega)).trans ((mup_n _ _ (by omega)).trans ((mup_n _ _ (by omega)).trans (mup_n _ _ (by omega)))))))))))))))))))))), ⟨⟨fun _ => none, (mup_n _ _ (by omega)).trans ((o9 _ (by omega)).trans ((mup_n _ _ (by omega)).trans ((mup_n _ _ (by omega)).trans ((o8 _ (by omega)).trans ((mup_n _ _ (by omega)).trans ((mup_n _ _ (by omega)).trans ((o7 _ (by omega)).trans ((mup_n _ _ (by omega)).trans ((mup_n _ _ (by omega)).trans ((o6 _ (by omega)).trans ((mup_n _ _ (by omega)).trans ((mup_n _ _ (by omega)).trans ((o5 _ (by omega)).trans ((mup_n _ _ (by omega)).trans ((mup_n _ _ (by omega)).trans ((o4 _ (by omega)).trans ((mup_n _ _ (by omega)).trans ((mup_n _ _ (by omega)).trans (mup_s _ _ _))))))))))))))))))), fun _ _ => rfl⟩, fun i _ s D hs => (by cases hs), fun s D s' D' hs => (by cases hs)⟩, InE.at i4 (fun q q1 q2 => (mup_n _ _ (by omega)).trans ((o9 q (by omega)).trans ((mup_n _ _ (by omega)).trans ((mup_n _ _ (by omega)).trans ((o8 q (by omega)).trans ((mup_n _ _ (by omega)).trans ((mup_n _ _ (by omega)).trans ((o7 q (by omega)).trans ((mup_n _ _ (by omega)).trans ((mup_n _ _ (by omega)).trans ((o6 q (by omega)).trans ((mup_n _ _ (by omega)).trans ((mup_n _ _ (by omega)).trans ((o5 q (by omega)).trans ((mup_n _ _ (by omega)).trans (mup_n _ _ (by omega))))))))))))))))), p5.at (fun q q1 q2 => (mup_n _ _ (by omega)).trans ((o9 q (by omega)).trans ((mup_n _ _ (by omega)).trans ((mup_n _ _ (by omega)).trans ((o8 q (by omega)).trans ((mup_n _ _ (by omega)).trans ((mup_n _ _ (by omega)).trans ((o7 q (by omega)).trans ((mup_n _ _ (by omega)).trans ((mup_n _ _ (by omega)).trans ((o6 q (by omega)).trans ((mup_n _ _ (by omega)).trans (mup_n _ _ (by omega)))))))))))))), m6.at (fun q q1 q2 => (mup_n _ _ (by omega)).trans ((o9 q (by omega)).trans ((mup_n _ _ (by omega)).trans ((mup_n _ _ (by omega)).trans ((o8 q (by omega)).trans ((mup_n _ _ (by omega)).trans ((mup_n _ _ (by omega)).trans ((o7 q (by omega)).trans ((mup_n _ _ (by omega)).trans (mup_n _ _ (by omega))))))))))), s7.at (fun q q1 q2 => (mup_n _ _ (by omega)).trans ((o9 q (by omega)).trans ((mup_n _ _ (by omega)).trans ((mup_n _ _ (by omega)).trans ((o8 q (by omega)).trans ((mup_n _ _ (by omega)).trans (mup_n _ _ (by omega)))))))), t8.at (fun q q1 q2 => (mup_n _ _ (by omega)).trans ((o9 q (by omega)).trans ((mup_n _ _ (by omega)).trans (mup_n _ _ (by omega))))), r9.at (fun q q1 q2 => mup_n _ _ (by omega)), Or.inl ⟨rfl, rfl⟩, by omega⟩, rfl, rfl⟩, fun q hq => (mup_n _ _ (by omega)).trans ((o9 q (by omega)).trans ((mup_n _ _ (by omega)).trans ((mup_n _ _ (by omega)).trans ((o8 q (by omega)).trans ((mup_n _ _ (by omega)).trans ((mup_n _ _ (by omega)).trans ((o7 q (by omega)).trans ((mup_n _ _ (by omega)).trans ((mup_n _ _ (by omega)).trans ((o6 q (by omega)).trans ((mup_n _ _ (by omega)).trans ((mup_n _ _ (by omega)).trans ((o5 q (by omega)).trans ((mup_n _ _ (by omega)).trans ((mup_n _ _ (by omega)).trans ((o4 q (by omega)).trans ((mup_n _ _ (by omega)).trans ((mup_n _ _ (by omega)).trans ((mup_n _ _ (by omega)).trans ((mup_n _ _ (by omega)).trans ((o2 q (by omega)).trans ((mup_n _ _ (by omega)).trans ((mup_n _ _ (by omega)).trans ((o1 q (by omega)).trans (mup_n _ _ (by omega))))))))))))))))))))))))))⟩⟩
