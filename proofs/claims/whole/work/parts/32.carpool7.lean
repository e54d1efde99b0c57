def HeldR (S : Nat → Nat → Int32) (d : Nat) : Nat → BS → (Nat → Int32) → Nat → BS → (Nat → Int32) → Prop
  | 0, B, H, k, B', H' => k = 0 ∧ B' = B ∧ H' = H
  | f + 1, B, H, k, B', H' => (m_top B S H d (bnr B) = none ∧ HeldR S d f B H k B' H') ∨ ∃ r B1 k1, m_top B S H d (bnr B) = some r ∧ Bput B r d B1 ∧ HeldR S d f B1 (upd H r (-1)) k1 B' H' ∧ k = (if (s_best (bT B d) (nI r) (bX B r) (bD B d)).1 = -1 then 0 else 1) + k1
def MatchR (S : Nat → Nat → Int32) : Nat → Nat → BS → (Nat → Int32) → Nat → BS → Prop
  | 0, _, B, _, k, B' => k = 0 ∧ B' = B
  | f + 1, d, B, H, k, B' => ∃ k1 B1 H1 k2, HeldR S d (dse (bD B d)).toInt.toNat B H k1 B1 H1 ∧ MatchR S f (d + 1) B1 H1 k2 B' ∧ k = k1 + k2
theorem Bput.tok {B B' : BS} {r d : Nat} (p : Bput B r d B') (t : Tok B) : Tok B' := by
  have s := p.same
  intro e he
  exact Nat.le_trans (t e (by rw [← s.1]; exact he)) (s.2.2.2.2 e)
theorem HeldR.same {S : Nat → Nat → Int32} {d : Nat} : ∀ {f : Nat} {B : BS} {H : Nat → Int32} {k : Nat} {B' : BS} {H' : Nat → Int32}, HeldR S d f B H k B' H' → bnd B' = bnd B ∧ (Tok B → Tok B')
  | 0, B, H, k, B', H', h => by
    obtain ⟨-, rfl, -⟩ := h
    exact ⟨rfl, id⟩
  | f + 1, B, H, k, B', H', h => by
    rcases h with ⟨-, h⟩ | ⟨r, B1, k1, -, bp, h, -⟩
    · exact HeldR.same h
    · have a := HeldR.same h
      exact ⟨a.1.trans bp.same.1, fun t => a.2 (bp.tok t)⟩
set_option maxRecDepth 100000 in
set_option maxHeartbeats 4000000 in
theorem cn_X10_assignHeldRiders {K : KX} {n : Nat} {h : MH} {c ba sa : Nat} {B : BS} {S : Nat → Nat → Int32} {H A : Nat → Int32} (c0 : h c = some (cpC c ba sa)) (bd : Bd h ba B) (ins : InE h (c + 144)) (pf : Pf h (c + 155) S) (mt : Mt h (c + 165) H A) (adr : c + 1 ≤ ba ∧ ba + 71 ≤ c + 143) {d : Nat} (hd : d < bnd B) (tk : Tok B) : Con K mX10_assignHeldRiders [.ref c, .ref (ba + 3 + 6 * d)] 0 0 n h (fun r9 n9 h' => ∃ k B' H', HeldR S d (dse (bD B d)).toInt.toNat B H k B' H' ∧ r9 = .inl (some (.int (nI k))) ∧ n9 = n ∧ Bd h' ba B' ∧ InE h' (c + 144) ∧ Pf h' (c + 155) S ∧ Mt h' (c + 165) H' A ∧ Off2 ba (ba + 71) (c + 144) (c + 168) h h') := by
  refine Con.of (by decide +kernel) (Nat.le_of_ble_eq_true rfl) ?_
  have loop : ∀ (f : Nat) (t k : Nat) (B1 : BS) (H1 : Nat → Int32) (h1 : MH), t + f = (dse (bD B d)).toInt.toNat → (∀ k' B' H', HeldR S d f B1 H1 k' B' H' → HeldR S d (dse (bD B d)).toInt.toNat B H (k + k') B' H') → Bd h1 ba B1 → bnd B1 = bnd B → bD B1 = bD B → Tok B1 → InE h1 (c + 144) → Pf h1 (c + 155) S → Mt h1 (c + 165) H1 A → Off2 ba (ba + 71) (c + 144) (c + 168) h h1 → GG (K, mX10_assignHeldRiders, 0, 0, (fun r9 n9 h' => ∃ k B' H', HeldR S d (dse (bD B d)).toInt.toNat B H k B' H' ∧ r9 = .inl (some (.int (nI k))) ∧ n9 = n ∧ Bd h' ba B' ∧ InE h' (c + 144) ∧ Pf h' (c + 155) S ∧ Mt h' (c + 165) H' A ∧ Off2 ba (ba + 71) (c + 144) (c + 168) h h')) 0 0 4 [(3, .int (nI t)), (2, .int (nI k)), (0, .ref c), (1, .ref (ba + 3 + 6 * d))] [] n h1 := by
    intro f
    induction f with
    | zero =>
      intro t k B1 H1 h1 ht hs bd9 hnd hD tk1 i9 pf9 mt9 o
      have c09 : h1 c = some (cpC c ba sa) := (o _ (by omega) (by omega)).trans c0
      have b09 := bd9.1
      have q5 := bd9.2.2.2.2.2.1
      have q6 := bd9.2.2.2.2.2.2
      obtain ⟨de, dt⟩ := bd9.2.2.2.1 d (by omega)
      have hB := (dse (bD B d)).toInt_lt
      have hse : dse (bD B1 d) = dse (bD B d) := by rw [hD]
      refine mj_iload_n 0 dX10_assignHeldRiders_4 rfl ?_
      refine mj_aload_n 3 dX10_assignHeldRiders_5 rfl ?_
      refine mj_getf dX10_assignHeldRiders_6 fgX10_327 (by repeat (first | assumption | exact mup_s _ _ _ | rw [mup_n _ _ (by omega)])) rfl ?_
      refine mj_icmp_ge 58 dX10_assignHeldRiders_9 (by decide) (fun c_9 => ?_) (fun c_9 => ?_)
      · refine mj_iload_n 1 dX10_assignHeldRiders_58 rfl ?_
        exact mj_iret dX10_assignHeldRiders_59 rfl (Nat.le_of_ble_eq_true rfl) (Nat.le_of_ble_eq_true rfl) ⟨k, B1, H1, hs 0 B1 H1 ⟨rfl, rfl, rfl⟩, rfl, rfl, bd9, i9, pf9, mt9, o⟩
      · exact absurd (Int32.le_iff_toInt_le.mpr (by rw [hse, ixn (by omega)]; omega)) c_9
    | succ f ih =>
      intro t k B1 H1 h1 ht hs bd9 hnd hD tk1 i9 pf9 mt9 o
      have c09 : h1 c = some (cpC c ba sa) := (o _ (by omega) (by omega)).trans c0
      have b09 := bd9.1
      have q5 := bd9.2.2.2.2.2.1
      have q6 := bd9.2.2.2.2.2.2
      obtain ⟨de, dt⟩ := bd9.2.2.2.1 d (by omega)
      have hB := (dse (bD B d)).toInt_lt
      have hse : dse (bD B1 d) = dse (bD B d) := by rw [hD]
      cases hm : m_top B1 S H1 d (bnr B1) with
      | none =>
        refine mj_iload_n 0 dX10_assignHeldRiders_4 rfl ?_
        refine mj_aload_n 3 dX10_assignHeldRiders_5 rfl ?_
        refine mj_getf dX10_assignHeldRiders_6 fgX10_327 (by repeat (first | assumption | exact mup_s _ _ _ | rw [mup_n _ _ (by omega)])) rfl ?_
        refine mj_icmp_ge 58 dX10_assignHeldRiders_9 (by decide) (fun c_9 => ?_) (fun c_9 => ?_)
        · exact absurd (Int32.le_iff_toInt_le.mp c_9) (by rw [hse, ixn (by omega)]; omega)
        · refine mj_aload_n 2 dX10_assignHeldRiders_12 rfl ?_
          refine mj_getf dX10_assignHeldRiders_13 fgX10_40 (by repeat (first | assumption | exact mup_s _ _ _ | rw [mup_n _ _ (by omega)])) rfl ?_
          refine mj_aload_n 2 dX10_assignHeldRiders_16 rfl ?_
          refine mj_getf dX10_assignHeldRiders_17 fgX10_12 (by repeat (first | assumption | exact mup_s _ _ _ | rw [mup_n _ _ (by omega)])) rfl ?_
          refine mj_aload_n 2 dX10_assignHeldRiders_20 rfl ?_
          refine mj_getf dX10_assignHeldRiders_21 fgX10_33 (by repeat (first | assumption | exact mup_s _ _ _ | rw [mup_n _ _ (by omega)])) rfl ?_
          refine mj_aload_n 3 dX10_assignHeldRiders_24 rfl ?_
          have m0 := mt9.1
          refine mj_cV1 [_, _, _] (RX3, TX3, 2) dX10_assignHeldRiders_25 cwX3_takeBestHeld lkX10_330 m0 rfl rfl rfl rfl (cn_X3_takeBestHeld mt9 pf9 bd9 (show d < 8 by omega)) ⟨Nat.le_of_ble_eq_true rfl, Nat.le_of_ble_eq_true rfl, Nat.le_of_ble_eq_true rfl, Nat.le_of_ble_eq_true rfl, Nat.le_of_ble_eq_true rfl⟩ (fun h' e' => ?_)
          obtain ⟨mt8, o8⟩ := e'
          rw [hm]
          rw [hm] at mt8
          have bd8 := bd9.off o8 (by omega)
          have pf8 := pf9.off o8 (by omega)
          have c08 := o8.at c09 (by omega)
          have i8 := i9.at fun q h1 h2 => o8 q (by omega)
          refine mj_astoreN (ls' := [(4, _), (3, _), (2, _), (0, _), (1, _)]) dX10_assignHeldRiders_28 (Nat.le_of_ble_eq_true rfl) rfl ?_
          refine mj_aloadN 0 dX10_assignHeldRiders_30 rfl ?_
          refine mj_ifnullN 52 dX10_assignHeldRiders_32 (by decide) ?_
          refine mj_iinc (ls' := [(3, _), (4, _), (2, _), (0, _), (1, _)]) 1 dX10_assignHeldRiders_52 rfl (nI_s _) (Nat.le_of_ble_eq_true rfl) rfl ?_
          refine mj_goto 4 dX10_assignHeldRiders_55 (by decide) ?_
          exact mj_ls [0, 2, 3, 4] rfl (ih (t + 1) k B1 H1 _ (by omega) (fun k' B' H' hh => hs k' B' H' (Or.inl ⟨hm, hh⟩)) bd8 hnd hD tk1 i8 pf8 mt8 (o.tr (o8.up (by omega) (by omega)).to2))
      | some r =>
        refine mj_iload_n 0 dX10_assignHeldRiders_4 rfl ?_
        refine mj_aload_n 3 dX10_assignHeldRiders_5 rfl ?_
        refine mj_getf dX10_assignHeldRiders_6 fgX10_327 (by repeat (first | assumption | exact mup_s _ _ _ | rw [mup_n _ _ (by omega)])) rfl ?_
        refine mj_icmp_ge 58 dX10_assignHeldRiders_9 (by decide) (fun c_9 => ?_) (fun c_9 => ?_)
        · exact absurd (Int32.le_iff_toInt_le.mp c_9) (by rw [hse, ixn (by omega)]; omega)
        · refine mj_aload_n 2 dX10_assignHeldRiders_12 rfl ?_
          refine mj_getf dX10_assignHeldRiders_13 fgX10_40 (by repeat (first | assumption | exact mup_s _ _ _ | rw [mup_n _ _ (by omega)])) rfl ?_
          refine mj_aload_n 2 dX10_assignHeldRiders_16 rfl ?_
          refine mj_getf dX10_assignHeldRiders_17 fgX10_12 (by repeat (first | assumption | exact mup_s _ _ _ | rw [mup_n _ _ (by omega)])) rfl ?_
          refine mj_aload_n 2 dX10_assignHeldRiders_20 rfl ?_
          refine mj_getf dX10_assignHeldRiders_21 fgX10_33 (by repeat (first | assumption | exact mup_s _ _ _ | rw [mup_n _ _ (by omega)])) rfl ?_
          refine mj_aload_n 3 dX10_assignHeldRiders_24 rfl ?_
          have m0 := mt9.1
          refine mj_cV1 [_, _, _] (RX3, TX3, 2) dX10_assignHeldRiders_25 cwX3_takeBestHeld lkX10_330 m0 rfl rfl rfl rfl (cn_X3_takeBestHeld mt9 pf9 bd9 (show d < 8 by omega)) ⟨Nat.le_of_ble_eq_true rfl, Nat.le_of_ble_eq_true rfl, Nat.le_of_ble_eq_true rfl, Nat.le_of_ble_eq_true rfl, Nat.le_of_ble_eq_true rfl⟩ (fun h' e' => ?_)
          obtain ⟨mt8, o8⟩ := e'
          rw [hm]
          rw [hm] at mt8
          have bd8 := bd9.off o8 (by omega)
          have pf8 := pf9.off o8 (by omega)
          have c08 := o8.at c09 (by omega)
          have i8 := i9.at fun q h1 h2 => o8 q (by omega)
          refine mj_astore (ls' := [(4, _), (3, _), (2, _), (0, _), (1, _)]) dX10_assignHeldRiders_28 (Nat.le_of_ble_eq_true rfl) rfl ?_
          refine mj_aload 0 dX10_assignHeldRiders_30 rfl ?_
          refine mj_ifnull dX10_assignHeldRiders_32 ?_
          refine mj_aload_n 3 dX10_assignHeldRiders_35 rfl ?_
          refine mj_getf dX10_assignHeldRiders_36 fgX10_26 (by repeat (first | assumption | exact mup_s _ _ _ | rw [mup_n _ _ (by omega)])) rfl ?_
          refine mj_aload 0 dX10_assignHeldRiders_39 rfl ?_
          refine mj_aload_n 4 dX10_assignHeldRiders_41 rfl ?_
          have hr := m_top_lt _ _ _ _ _ _ hm
          obtain ⟨U2, upa, uda, ui⟩ := id i8
          refine mj_cV1 [_, _] (RX2, TX2, 4) dX10_assignHeldRiders_42 cwX2_putIn lkX10_204 (ui.1) rfl rfl rfl rfl (cn_X2_putIn i8 bd8 (r := r) (show r < 20 by omega) (show d < 8 by omega) (tk1 d (by omega)) (by omega)) ⟨Nat.le_of_ble_eq_true rfl, Nat.le_of_ble_eq_true rfl, Nat.le_of_ble_eq_true rfl, Nat.le_of_ble_eq_true rfl, Nat.le_of_ble_eq_true rfl⟩ (fun h' e' => ?_)
          obtain ⟨B7, bd7, bp, i7, o7⟩ := e'
          have sm := bp.same
          have mt7 := mt8.at fun q h1 h2 => o7 q (by omega) (by omega)
          have pf7 := pf8.at fun q h1 h2 => o7 q (by omega) (by omega)
          have o6 : Off2 ba (ba + 71) (c + 144) (c + 168) _ _ := (o.tr (o8.up (by omega) (by omega)).to2).tr (fun q h1 h2 => o7 q h1 (by omega))
          refine mj_iconst (v := (-1)) dX10_assignHeldRiders_45 rfl ?_
          refine mj_icmp_eq 52 dX10_assignHeldRiders_46 (by decide) (fun c_46 => ?_) (fun c_46 => ?_)
          · refine mj_iinc (ls' := [(3, _), (4, _), (2, _), (0, _), (1, _)]) 1 dX10_assignHeldRiders_52 rfl (nI_s _) (Nat.le_of_ble_eq_true rfl) rfl ?_
            refine mj_goto 4 dX10_assignHeldRiders_55 (by decide) ?_
            exact mj_ls [0, 2, 3, 4] rfl (ih (t + 1) (k + 0) B7 (upd H1 r (-1)) _ (by omega) (fun k' B' H' hh => by have q := hs (0 + k') B' H' (Or.inr ⟨r, B7, k', hm, bp, hh, by rw [if_pos c_46]⟩); rw [show k + (0 + k') = k + 0 + k' by omega] at q; exact q) bd7 (sm.1.trans hnd) (sm.2.2.2.1.trans hD) (bp.tok tk1) i7 pf7 mt7 o6)
          · refine mj_iinc (ls' := [(2, _), (4, _), (3, _), (0, _), (1, _)]) 2 dX10_assignHeldRiders_49 rfl (nI_s _) (Nat.le_of_ble_eq_true rfl) rfl ?_
            refine mj_iinc (ls' := [(3, _), (2, _), (4, _), (0, _), (1, _)]) 2 dX10_assignHeldRiders_52 rfl (nI_s _) (Nat.le_of_ble_eq_true rfl) rfl ?_
            refine mj_goto 4 dX10_assignHeldRiders_55 (by decide) ?_
            exact mj_ls [0, 1, 3, 4] rfl (ih (t + 1) (k + 1) B7 (upd H1 r (-1)) _ (by omega) (fun k' B' H' hh => by have q := hs (1 + k') B' H' (Or.inr ⟨r, B7, k', hm, bp, hh, by rw [if_neg c_46]⟩); rw [show k + (1 + k') = k + 1 + k' by omega] at q; exact q) bd7 (sm.1.trans hnd) (sm.2.2.2.1.trans hD) (bp.tok tk1) i7 pf7 mt7 o6)
  refine mj_iconst (v := 0) dX10_assignHeldRiders_0 rfl ?_
  refine mj_istore_n (ls' := [(2, _), (0, _), (1, _)]) dX10_assignHeldRiders_1 (Nat.le_of_ble_eq_true rfl) rfl ?_
  refine mj_iconst (v := 0) dX10_assignHeldRiders_2 rfl ?_
  refine mj_istore_n (ls' := [(3, _), (2, _), (0, _), (1, _)]) dX10_assignHeldRiders_3 (Nat.le_of_ble_eq_true rfl) rfl ?_
  exact mj_ls [0, 1, 2, 3] rfl (loop (dse (bD B d)).toInt.toNat 0 0 B H h (by omega) (fun k' B' H' hh => by rw [Nat.zero_add]; exact hh) bd rfl rfl tk ins pf mt (fun _ _ _ => rfl))
theorem Tok_free {B : BS} (t : Tok B) : Tok (b_free B) := by
  intro d hd
  show 2 ≤ rn (if d < bnd B then t_free (b_freeX B (bnr B)) d else bT B d)
  have hd' : d < bnd B := hd
  rw [if_pos hd']
  unfold t_free
  split
  · exact t d hd'
  · exact Nat.le_refl 2
section MJE
variable {Γ : GX} {k sl pc n : Nat} {ls : List (Nat × Value)} {st : List Value} {h : MH}
/-- a call whose answer is known to exist -/
theorem mj_cVE {i : Nat} {M' : MI} {b ci : Nat} {fs rest : List Value} {mc' ms' n' : Nat} {Q' : RQ} (Pv : Value → MH → Prop) (As : List Value) (r : vw_C) (hd : decode (mcode Γ.2.1) pc = .ok (.invokevirtual i, 3)) (cw : CVw M' As.length) (hlk : LK (my Γ.2.1).cls i (my M')) (hb : h b = some (cO ci fs)) (hcl : vwCl[ci]? = some r) (hrc : r.1 = (my M').cls) (hnt : mhh M' = []) (hst : st = As.reverse ++ .ref b :: rest) (hcon : Con Γ.1 M' (.ref b :: As) mc' ms' n h Q') (hq : ∀ r n9 h9, Q' r n9 h9 → ∃ v, r = .inl (some v) ∧ n9 = n' ∧ Pv v h9) (sd : Sd Γ M' k sl mc' ms' rest) (g : ∀ v h', Pv v h' → GG Γ (k + mc') (sl + ms') (pc + 3) ls (v :: rest) n' h') : GG Γ k sl pc ls st n h := by
  refine mj_callV (As := As) (rest := rest) (r := r) hd cw hb hcl hrc hnt hlk hcon hst sd.1 sd.2.1 sd.2.2.1 sd.2.2.2.1 sd.2.2.2.2 (fun v9 n9 h9 q => ?_) (fun E n9 h9 q => ?_)
  · obtain ⟨v, e, e2, q2⟩ := hq _ _ _ q
    subst e2
    cases e
    exact g v h9 q2
  · obtain ⟨v, e, -⟩ := hq _ _ _ q
    cases e
end MJE
set_option maxRecDepth 100000 in
set_option maxHeartbeats 4000000 in
theorem cn_X10_match {K : KX} {n : Nat} {h : MH} {c : Nat} {P : CS} (x : Cp h n c P) (tk : Tok (pB P)) : Con K mX10_match [.ref c] 0 0 n h (fun r9 n9 h' => ∃ S8 k B', SolE (b_free (pB P)) S8 ∧ MatchR S8 (bnd (pB P)) 0 (b_free (pB P)) (m_run (b_free (pB P)) S8 160 (fun _ => -1, fun _ => 0)).1 k B' ∧ r9 = .inl (some (.int (nI k))) ∧ n9 = n ∧ CpE h h' n c (p_setB P B')) := by
  obtain ⟨ba, sa, Sp, S, H, A, V, Kx, x, xfc, xfp⟩ := x
  obtain ⟨c0, bd, sp, sv, ins, pf, mt, sh, tx, rd, ad, nn⟩ := id x
  have b0 := bd.1
  have b5 := bd.2.2.2.2.2.1
  have b6 := bd.2.2.2.2.2.2
  have adr := x.adr
  refine Con.of (by decide +kernel) (Nat.le_of_ble_eq_true rfl) ?_
  refine mj_aload_n 0 dX10_match_0 rfl ?_
  refine mj_getf dX10_match_1 fgX10_12 (by repeat (first | assumption | exact mup_s _ _ _ | rw [mup_n _ _ (by omega)])) rfl ?_
  refine mj_cV0 [] (RX0, TX0, 5) dX10_match_4 cwX0_freeAssignedRiders lkX10_216 b0 rfl rfl rfl rfl (cn_X0_freeAssignedRiders bd tk) ⟨Nat.le_of_ble_eq_true rfl, Nat.le_of_ble_eq_true rfl, Nat.le_of_ble_eq_true rfl, Nat.le_of_ble_eq_true rfl, Nat.le_of_ble_eq_true rfl⟩ (fun h' e' => ?_)
  obtain ⟨bd5, o5⟩ := e'
  have tk5 := Tok_free tk
  have c05 := o5.at c0 (by omega)
  have b05 := bd5.1
  have i5 := ins.at fun q h1 h2 => o5 q (by omega)
  have pf5 := pf.off o5 (by omega)
  have mt5 := mt.off o5 (by omega)
  have pf50 := pf5.1
  refine mj_aload_n 0 dX10_match_7 rfl ?_
  refine mj_getf dX10_match_8 fgX10_33 (by repeat (first | assumption | exact mup_s _ _ _ | rw [mup_n _ _ (by omega)])) rfl ?_
  refine mj_aload_n 0 dX10_match_11 rfl ?_
  refine mj_getf dX10_match_12 fgX10_12 (by repeat (first | assumption | exact mup_s _ _ _ | rw [mup_n _ _ (by omega)])) rfl ?_
  refine mj_aload_n 0 dX10_match_15 rfl ?_
  refine mj_getf dX10_match_16 fgX10_26 (by repeat (first | assumption | exact mup_s _ _ _ | rw [mup_n _ _ (by omega)])) rfl ?_
  refine mj_cV0 [_, _] (RX4, TX4, 1) dX10_match_19 cwX4_read lkX10_219 pf50 rfl rfl rfl rfl (cn_X4_read pf5 bd5 i5 tk5 (by omega) (by omega) (by omega)) ⟨Nat.le_of_ble_eq_true rfl, Nat.le_of_ble_eq_true rfl, Nat.le_of_ble_eq_true rfl, Nat.le_of_ble_eq_true rfl, Nat.le_of_ble_eq_true rfl⟩ (fun h' e' => ?_)
  obtain ⟨S8, pf6, se, i6, o6⟩ := e'
  have bd6 := bd5.at fun q h1 h2 => o6 q (by omega) (by omega)
  have mt6 := mt5.at fun q h1 h2 => o6 q (by omega) (by omega)
  have mt60 := mt6.1
  have c06 : h' c = some (cpC c ba sa) := (o6 _ (by omega) (by omega)).trans c05
  have b06 := bd6.1
  have pf60 := pf6.1
  refine mj_aload_n 0 dX10_match_22 rfl ?_
  refine mj_getf dX10_match_23 fgX10_40 (by repeat (first | assumption | exact mup_s _ _ _ | rw [mup_n _ _ (by omega)])) rfl ?_
  refine mj_aload_n 0 dX10_match_26 rfl ?_
  refine mj_getf dX10_match_27 fgX10_12 (by repeat (first | assumption | exact mup_s _ _ _ | rw [mup_n _ _ (by omega)])) rfl ?_
  refine mj_aload_n 0 dX10_match_30 rfl ?_
  refine mj_getf dX10_match_31 fgX10_33 (by repeat (first | assumption | exact mup_s _ _ _ | rw [mup_n _ _ (by omega)])) rfl ?_
  refine mj_cV0 [_, _] (RX3, TX3, 2) dX10_match_34 cwX3_run lkX10_223 mt60 rfl rfl rfl rfl (cn_X3_run mt6 pf6 bd6 (by omega) (by omega)) ⟨Nat.le_of_ble_eq_true rfl, Nat.le_of_ble_eq_true rfl, Nat.le_of_ble_eq_true rfl, Nat.le_of_ble_eq_true rfl, Nat.le_of_ble_eq_true rfl⟩ (fun h' e' => ?_)
  obtain ⟨mt7, o7⟩ := e'
  have bd7 := bd6.off o7 (by omega)
  have pf7 := pf6.off o7 (by omega)
  have i7 := i6.at fun q h1 h2 => o7 q (by omega)
  have c07 := o7.at c06 (by omega)
  have o57 : Off2 ba (ba + 71) (c + 144) (c + 168) h h' := (o5.to1.tr (fun q h1 h2 => o6 q (by omega) (by omega))).tr (o7.up (by omega) (by omega)).to2
  generalize hR : m_run (b_free (pB P)) S8 160 (fun _ => -1, fun _ => 0) = R at *
  refine mj_iconst (v := 0) dX10_match_37 rfl ?_
  refine mj_istore_n (ls' := [(1, _), (0, _)]) dX10_match_38 (Nat.le_of_ble_eq_true rfl) rfl ?_
  refine mj_iconst (v := 0) dX10_match_39 rfl ?_
  refine mj_istore_n (ls' := [(2, _), (1, _), (0, _)]) dX10_match_40 (Nat.le_of_ble_eq_true rfl) rfl ?_
  have loop : ∀ (f : Nat) (d k : Nat) (B1 : BS) (H1 A1 : Nat → Int32) (g : MH), d + f = bnd (pB P) → (∀ k' B', MatchR S8 f d B1 H1 k' B' → MatchR S8 (bnd (pB P)) 0 (b_free (pB P)) R.1 (k + k') B') → Bd g ba B1 → bnd B1 = bnd (pB P) → Tok B1 → InE g (c + 144) → Pf g (c + 155) S8 → Mt g (c + 165) H1 A1 → Off2 ba (ba + 71) (c + 144) (c + 168) h g → GG (K, mX10_match, 0, 0, (fun r9 n9 h' => ∃ S8 k B', SolE (b_free (pB P)) S8 ∧ MatchR S8 (bnd (pB P)) 0 (b_free (pB P)) (m_run (b_free (pB P)) S8 160 (fun _ => -1, fun _ => 0)).1 k B' ∧ r9 = .inl (some (.int (nI k))) ∧ n9 = n ∧ CpE h h' n c (p_setB P B'))) 0 0 41 [(2, .int (nI d)), (1, .int (nI k)), (0, .ref c)] [] n g := by
    intro f
    induction f with
    | zero =>
      intro d k B1 H1 A1 g hd hs bd9 hnd tk1 i9 pf9 mt9 o
      have c09 : g c = some (cpC c ba sa) := (o _ (by omega) (by omega)).trans c0
      have b09 := bd9.1
      refine mj_iload_n 0 dX10_match_41 rfl ?_
      refine mj_aload_n 2 dX10_match_42 rfl ?_
      refine mj_getf dX10_match_43 fgX10_12 (by repeat (first | assumption | exact mup_s _ _ _ | rw [mup_n _ _ (by omega)])) rfl ?_
      refine mj_getf dX10_match_46 fgX10_147 (by repeat (first | assumption | exact mup_s _ _ _ | rw [mup_n _ _ (by omega)])) rfl ?_
      refine mj_icmp_ge 73 dX10_match_49 (by decide) (fun c_49 => ?_) (fun c_49 => ?_)
      · refine mj_iload_n 1 dX10_match_73 rfl ?_
        exact mj_iret dX10_match_74 rfl (Nat.le_of_ble_eq_true rfl) (Nat.le_of_ble_eq_true rfl) ⟨S8, k, B1, se, by have q := hs 0 B1 ⟨rfl, rfl⟩; rw [hR]; exact q, rfl, rfl, ⟨ba, sa, Sp, S8, H1, A1, V, Kx, x.bd bd9 i9 pf9 mt9 (sh.at fun q h1 h2 => o q (by omega) (by omega)) (fun q h1 h2 => o q h1 (by omega)), xfc, xfp⟩, fun q hq => o q (by omega) (by omega)⟩
      · exact absurd (nI_le (show bnd B1 ≤ d by omega) (by omega)) c_49
    | succ f ih =>
      intro d k B1 H1 A1 g hd hs bd9 hnd tk1 i9 pf9 mt9 o
      have c09 : g c = some (cpC c ba sa) := (o _ (by omega) (by omega)).trans c0
      have b09 := bd9.1
      have q5 := bd9.2.2.2.2.2.1
      refine mj_iload_n 0 dX10_match_41 rfl ?_
      refine mj_aload_n 2 dX10_match_42 rfl ?_
      refine mj_getf dX10_match_43 fgX10_12 (by repeat (first | assumption | exact mup_s _ _ _ | rw [mup_n _ _ (by omega)])) rfl ?_
      refine mj_getf dX10_match_46 fgX10_147 (by repeat (first | assumption | exact mup_s _ _ _ | rw [mup_n _ _ (by omega)])) rfl ?_
      refine mj_icmp_ge 73 dX10_match_49 (by decide) (fun c_49 => ?_) (fun c_49 => ?_)
      · exact absurd c_49 (nI_ge (show d < bnd B1 by omega) (by omega))
      · refine mj_iload_n 1 dX10_match_52 rfl ?_
        refine mj_aload_n 2 dX10_match_53 rfl ?_
        refine mj_aload_n 2 dX10_match_54 rfl ?_
        refine mj_getf dX10_match_55 fgX10_12 (by repeat (first | assumption | exact mup_s _ _ _ | rw [mup_n _ _ (by omega)])) rfl ?_
        refine mj_iload_n 0 dX10_match_58 rfl ?_
        refine mj_cV1 [_] (RX0, TX0, 5) dX10_match_59 cwX0_driver lkX10_99 b09 rfl rfl rfl rfl (cn_X0_driver bd9 (j := d) rfl (show d < bnd B1 by omega)) ⟨Nat.le_of_ble_eq_true rfl, Nat.le_of_ble_eq_true rfl, Nat.le_of_ble_eq_true rfl, Nat.le_of_ble_eq_true rfl, Nat.le_of_ble_eq_true rfl⟩ (fun h' e' => ?_)
        subst h'
        refine mj_cVE (fun v h' => ∃ k1 B2 H2, v = .int (nI k1) ∧ HeldR S8 d (dse (bD B1 d)).toInt.toNat B1 H1 k1 B2 H2 ∧ Bd h' ba B2 ∧ InE h' (c + 144) ∧ Pf h' (c + 155) S8 ∧ Mt h' (c + 165) H2 A1 ∧ Off2 ba (ba + 71) (c + 144) (c + 168) g h') [_] (RX10, TX10, 9) dX10_match_62 cwX10_assignHeldRiders lkX10_227 c09 rfl rfl rfl rfl (cn_X10_assignHeldRiders c09 bd9 i9 pf9 mt9 adr (show d < bnd B1 by omega) tk1) (fun r9 n9 h9 q => by obtain ⟨k1, B2, H2, hh, e, e2, q1, q2, q3, q4, q5⟩ := q; exact ⟨_, e, e2, k1, B2, H2, rfl, hh, q1, q2, q3, q4, q5⟩) ⟨Nat.le_of_ble_eq_true rfl, Nat.le_of_ble_eq_true rfl, Nat.le_of_ble_eq_true rfl, Nat.le_of_ble_eq_true rfl, Nat.le_of_ble_eq_true rfl⟩ (fun v9 h' e' => ?_)
        obtain ⟨k1, B2, H2, rfl, hh, bd8, i8, pf8, mt8, o8⟩ := e'
        have sm := hh.same
        refine mj_iadd dX10_match_65 ?_
        refine mj_eq (nI_add _ _) ?_
        refine mj_istore_n (ls' := [(1, _), (2, _), (0, _)]) dX10_match_66 (Nat.le_of_ble_eq_true rfl) rfl ?_
        refine mj_iinc (ls' := [(2, _), (1, _), (0, _)]) 1 dX10_match_67 rfl (nI_s _) (Nat.le_of_ble_eq_true rfl) rfl ?_
        refine mj_goto 41 dX10_match_70 (by decide) ?_
        exact mj_ls [0, 1, 2] rfl (ih (d + 1) (k + k1) B2 H2 A1 _ (by omega) (fun k' B' hm => by have q := hs (k1 + k') B' ⟨k1, B2, H2, k', hh, hm, rfl⟩; rw [show k + (k1 + k') = k + k1 + k' by omega] at q; exact q) bd8 (sm.1.trans hnd) (sm.2 tk1) i8 pf8 mt8 (o.tr o8))
  exact mj_ls [0, 1, 2] rfl (loop (bnd (pB P)) 0 0 _ _ _ _ (by omega) (fun k' B' hm => by rw [Nat.zero_add]; exact hm) bd7 rfl tk5 i7 pf7 mt7 o57)
