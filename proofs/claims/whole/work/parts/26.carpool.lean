section MJT
variable {Γ : GX} {k sl pc n : Nat} {ls : List (Nat × Value)} {st : List Value} {h : MH}
/-- a call that throws, and nobody here catches -/
theorem mj_tV {i : Nat} {M' : MI} {b ci : Nat} {fs rest : List Value} {mc' ms' n' : Nat} {P : MH → Prop} {E : String} (As : List Value) (r : vw_C) (hd : decode (mcode Γ.2.1) pc = .ok (.invokevirtual i, 3)) (cw : CVw M' As.length) (hlk : LK (my Γ.2.1).cls i (my M')) (hb : h b = some (cO ci fs)) (hcl : vwCl[ci]? = some r) (hrc : r.1 = (my M').cls) (hnt : mhh M' = []) (hst : st = As.reverse ++ .ref b :: rest) (hn2 : mhh Γ.2.1 = []) (hcon : Con Γ.1 M' (.ref b :: As) mc' ms' n h (ThrP E n' P)) (sd : Sd Γ M' k sl mc' ms' rest) (g : ∀ n9 h9, n' ≤ n9 → P h9 → Γ.2.2.2.2 (.inr E) n9 h9) : GG Γ k sl pc ls st n h := by
  refine mj_callV (As := As) (rest := rest) (r := r) hd cw hb hcl hrc hnt hlk hcon hst sd.1 sd.2.1 sd.2.2.1 sd.2.2.2.1 sd.2.2.2.2 (fun v9 n9 h9 q => ?_) (fun E9 n9 h9 q => ?_)
  · exact absurd q.1 (fun e => by cases e)
  · obtain ⟨e, q1, q2⟩ := q
    cases e
    exact XX.out hn2 (g n9 h9 q1 q2) sd.2.2.2.1 sd.2.2.2.2
theorem mj_tS {i : Nat} {M' : MI} {rest : List Value} {mc' ms' n' : Nat} {P : MH → Prop} {E : String} (As : List Value) (hd : decode (mcode Γ.2.1) pc = .ok (.invokestatic i, 3)) (cw : CSw M' As.length) (hlk : LK (my Γ.2.1).cls i (my M')) (hst : st = As.reverse ++ rest) (hn2 : mhh Γ.2.1 = []) (hcon : Con Γ.1 M' As mc' ms' n h (ThrP E n' P)) (sd : Sd Γ M' k sl mc' ms' rest) (g : ∀ n9 h9, n' ≤ n9 → P h9 → Γ.2.2.2.2 (.inr E) n9 h9) : GG Γ k sl pc ls st n h := by
  refine mj_callS (As := As) (rest := rest) hd cw hlk hcon hst sd.1 sd.2.1 sd.2.2.1 sd.2.2.2.1 sd.2.2.2.2 (fun v9 n9 h9 q => ?_) (fun E9 n9 h9 q => ?_)
  · exact absurd q.1 (fun e => by cases e)
  · obtain ⟨e, q1, q2⟩ := q
    cases e
    exact XX.out hn2 (g n9 h9 q1 q2) sd.2.2.2.1 sd.2.2.2.2
end MJT
-- CARPOOL: object at c; two boards at c + 1 and c + 72, the saved ones' array c + 143, insertion c + 144, preferences c + 155, matching c + 165, shares c + 168, text c + 172, reader c + 174
abbrev CS : Type := BS × (Nat → Option (Nat × BS)) × (Nat → Int32) × Nat × Int32 × Int32
abbrev pB (P : CS) : BS := P.1
abbrev pV (P : CS) : Nat → Option (Nat × BS) := P.2.1
abbrev pT (P : CS) : Nat → Int32 := P.2.2.1
abbrev pL (P : CS) : Nat := P.2.2.2.1
abbrev pfc (P : CS) : Int32 := P.2.2.2.2.1
abbrev pfp (P : CS) : Int32 := P.2.2.2.2.2
def p_setB (P : CS) (B : BS) : CS := (B, pV P, pT P, pL P, pfc P, pfp P)
def cpC (c ba sa : Nat) : MC := cO 10 [.ref ba, .ref sa, .ref (c + 143), .ref (c + 144), .ref (c + 155), .ref (c + 165), .ref (c + 168), .ref (c + 172), .ref (c + 174)]
def SvOk (h : MH) (n c : Nat) (sv : Nat → Option (Nat × BS)) : Prop := (∃ f, h (c + 143) = some (cQ 3 2 f) ∧ ∀ i, i < 2 → f i = (sv i).map (fun y => y.1)) ∧ (∀ i, i < 2 → ∀ s D, sv i = some (s, D) → Bd h s D ∧ c + 193 ≤ s ∧ s + 71 ≤ n) ∧ (∀ s D s' D', sv 0 = some (s, D) → sv 1 = some (s', D') → s + 71 ≤ s' ∨ s' + 71 ≤ s)
def CpX (h : MH) (n c ba sa : Nat) (B Sp : BS) (sv : Nat → Option (Nat × BS)) (S : Nat → Nat → Int32) (H A : Nat → Int32) (V : VS) (T : Nat → Int32) (tl : Nat) (Kx : KS) : Prop :=
  h c = some (cpC c ba sa) ∧ Bd h ba B ∧ Bd h sa Sp ∧ SvOk h n c sv ∧ InE h (c + 144) ∧ Pf h (c + 155) S ∧ Mt h (c + 165) H A ∧ Sh h (c + 168) V ∧ Tx h (c + 172) T tl ∧ Rd h (c + 174) Kx ∧ ((ba = c + 1 ∧ sa = c + 72) ∨ (ba = c + 72 ∧ sa = c + 1)) ∧ c + 176 ≤ n
def Cp (h : MH) (n c : Nat) (P : CS) : Prop := ∃ ba sa Sp S H A V Kx, CpX h n c ba sa (pB P) Sp (pV P) S H A V (pT P) (pL P) Kx ∧ kfc Kx = pfc P ∧ kfp Kx = pfp P
/-- what the class's cells are: all others stay -/
def OffC (c : Nat) (h h' : MH) : Prop := ∀ q, (q < c ∨ c + 176 ≤ q ∨ q = c + 143) → h' q = h q
theorem OffC.rf {c : Nat} {h : MH} : OffC c h h := fun _ _ => rfl
theorem OffC.tr {c : Nat} {h h1 h2 : MH} (x : OffC c h h1) (y : OffC c h1 h2) : OffC c h h2 := fun q e => (y q e).trans (x q e)
theorem Off.toC {a b c : Nat} {h h' : MH} (o : Off a b h h') (h1 : c ≤ a ∧ b ≤ c + 176) (h2 : b ≤ c + 143 ∨ c + 144 ≤ a) : OffC c h h' := fun q e => o q (by omega)
theorem Off2.toC {a b a2 b2 c : Nat} {h h' : MH} (o : Off2 a b a2 b2 h h') (h1 : c ≤ a ∧ b ≤ c + 176 ∧ c ≤ a2 ∧ b2 ≤ c + 176) (h2 : b ≤ c + 143 ∨ c + 144 ≤ a) (h3 : b2 ≤ c + 143 ∨ c + 144 ≤ a2) : OffC c h h' := fun q e => o q (by omega) (by omega)
theorem SvOk.at {h h' : MH} {n c : Nat} {sv : Nat → Option (Nat × BS)} (x : SvOk h n c sv) (e : ∀ q, (q = c + 143 ∨ c + 176 ≤ q) → h' q = h q) : SvOk h' n c sv := by
  obtain ⟨⟨f, x0, x1⟩, x2, x3⟩ := x
  exact ⟨⟨f, (e _ (Or.inl rfl)).trans x0, x1⟩, fun i hi s D hs => by
    obtain ⟨y1, y2, y3⟩ := x2 i hi s D hs
    exact ⟨y1.at fun q h1 h2 => e q (Or.inr (by omega)), y2, y3⟩, x3⟩
theorem SvOk.c {h h' : MH} {n c : Nat} {sv : Nat → Option (Nat × BS)} (x : SvOk h n c sv) (e : OffC c h h') : SvOk h' n c sv := x.at fun q h1 => e q (by omega)
theorem SvOk.mono {h : MH} {n n' c : Nat} {sv : Nat → Option (Nat × BS)} (x : SvOk h n c sv) (e : n ≤ n') : SvOk h n' c sv := by
  obtain ⟨x0, x2, x3⟩ := x
  exact ⟨x0, fun i hi s D hs => by
    obtain ⟨y1, y2, y3⟩ := x2 i hi s D hs
    exact ⟨y1, y2, by omega⟩, x3⟩
theorem Cp.mono {h : MH} {n n' c : Nat} {P : CS} (x : Cp h n c P) (e : n ≤ n') : Cp h n' c P := by
  obtain ⟨ba, sa, Sp, S, H, A, V, Kx, ⟨c0, bd, sp, sv, ins, pf, mt, sh, tx, rd, ad, nn⟩, xfc, xfp⟩ := x
  exact ⟨ba, sa, Sp, S, H, A, V, Kx, ⟨c0, bd, sp, sv.mono e, ins, pf, mt, sh, tx, rd, ad, by omega⟩, xfc, xfp⟩
/-- the board has become another, with changes in it and in the insertion, the preferences and the matching alone -/
theorem CpX.bd {h h' : MH} {n c ba sa : Nat} {B B' Sp : BS} {sv : Nat → Option (Nat × BS)} {S S' : Nat → Nat → Int32} {H A H' A' : Nat → Int32} {V V' : VS} {T : Nat → Int32} {tl : Nat} {Kx : KS} (x : CpX h n c ba sa B Sp sv S H A V T tl Kx) (bd' : Bd h' ba B') (ins' : InE h' (c + 144)) (pf' : Pf h' (c + 155) S') (mt' : Mt h' (c + 165) H' A') (sh' : Sh h' (c + 168) V') (o : Off2 ba (ba + 71) (c + 144) (c + 172) h h') : CpX h' n c ba sa B' Sp sv S' H' A' V' T tl Kx := by
  obtain ⟨c0, bd, sp, sv, ins, pf, mt, sh, tx, rd, ad, nn⟩ := x
  exact ⟨(o _ (by omega) (by omega)).trans c0, bd', sp.at fun q h1 h2 => o q (by omega) (by omega), sv.at fun q h1 => o q (by omega) (by omega), ins', pf', mt', sh', tx.at fun q h1 h2 => o q (by omega) (by omega), rd.at fun q h1 h2 => o q (by omega) (by omega), ad, nn⟩
theorem CpX.adr {h : MH} {n c ba sa : Nat} {B Sp : BS} {sv : Nat → Option (Nat × BS)} {S : Nat → Nat → Int32} {H A : Nat → Int32} {V : VS} {T : Nat → Int32} {tl : Nat} {Kx : KS} (x : CpX h n c ba sa B Sp sv S H A V T tl Kx) : c + 1 ≤ ba ∧ ba + 71 ≤ c + 143 := by
  have := x.2.2.2.2.2.2.2.2.2.2.1
  omega
theorem Off2.toB {c ba : Nat} {h h' : MH} (o : Off2 ba (ba + 71) (c + 144) (c + 172) h h') (e : c + 1 ≤ ba ∧ ba + 71 ≤ c + 143) : OffC c h h' := fun q hq => o q (by omega) (by omega)
set_option maxRecDepth 100000 in
set_option maxHeartbeats 4000000 in
theorem cn_X10_driverCount {K : KX} {n : Nat} {h : MH} {c : Nat} {P : CS} (x : Cp h n c P) : Con K mX10_driverCount [.ref c] 0 0 n h (Ret (some (.int (nI (bnd (pB P))))) n h) := by
  obtain ⟨ba, sa, Sp, S, H, A, V, Kx, x, xfc, xfp⟩ := x
  obtain ⟨c0, bd, sp, sv, ins, pf, mt, sh, tx, rd, ad, nn⟩ := id x
  have b0 := bd.1
  have b5 := bd.2.2.2.2.2.1
  have b6 := bd.2.2.2.2.2.2
  have adr := x.adr
  refine Con.of (by decide +kernel) (Nat.le_of_ble_eq_true rfl) ?_
  refine mj_aload_n 0 dX10_driverCount_0 rfl ?_
  refine mj_getf dX10_driverCount_1 fgX10_12 (by repeat (first | assumption | exact mup_s _ _ _ | rw [mup_n _ _ (by omega)])) rfl ?_
  refine mj_getf dX10_driverCount_4 fgX10_147 (by repeat (first | assumption | exact mup_s _ _ _ | rw [mup_n _ _ (by omega)])) rfl ?_
  exact mj_iret dX10_driverCount_7 rfl (Nat.le_of_ble_eq_true rfl) (Nat.le_of_ble_eq_true rfl) ⟨rfl, rfl, rfl⟩
set_option maxRecDepth 100000 in
set_option maxHeartbeats 4000000 in
theorem cn_X10_riderCount {K : KX} {n : Nat} {h : MH} {c : Nat} {P : CS} (x : Cp h n c P) : Con K mX10_riderCount [.ref c] 0 0 n h (Ret (some (.int (nI (bnr (pB P))))) n h) := by
  obtain ⟨ba, sa, Sp, S, H, A, V, Kx, x, xfc, xfp⟩ := x
  obtain ⟨c0, bd, sp, sv, ins, pf, mt, sh, tx, rd, ad, nn⟩ := id x
  have b0 := bd.1
  have b5 := bd.2.2.2.2.2.1
  have b6 := bd.2.2.2.2.2.2
  have adr := x.adr
  refine Con.of (by decide +kernel) (Nat.le_of_ble_eq_true rfl) ?_
  refine mj_aload_n 0 dX10_riderCount_0 rfl ?_
  refine mj_getf dX10_riderCount_1 fgX10_12 (by repeat (first | assumption | exact mup_s _ _ _ | rw [mup_n _ _ (by omega)])) rfl ?_
  refine mj_getf dX10_riderCount_4 fgX10_150 (by repeat (first | assumption | exact mup_s _ _ _ | rw [mup_n _ _ (by omega)])) rfl ?_
  exact mj_iret dX10_riderCount_7 rfl (Nat.le_of_ble_eq_true rfl) (Nat.le_of_ble_eq_true rfl) ⟨rfl, rfl, rfl⟩
set_option maxRecDepth 100000 in
set_option maxHeartbeats 4000000 in
theorem cn_X10_errorCode {K : KX} {n : Nat} {h : MH} {c : Nat} {P : CS} (x : Cp h n c P) : Con K mX10_errorCode [.ref c] 0 0 n h (Ret (some (.int (pfc P))) n h) := by
  obtain ⟨ba, sa, Sp, S, H, A, V, Kx, x, xfc, xfp⟩ := x
  obtain ⟨c0, bd, sp, sv, ins, pf, mt, sh, tx, rd, ad, nn⟩ := id x
  have b0 := bd.1
  have b5 := bd.2.2.2.2.2.1
  have b6 := bd.2.2.2.2.2.2
  have adr := x.adr
  have rd0 := rd.1
  refine Con.of (by decide +kernel) (Nat.le_of_ble_eq_true rfl) ?_
  refine mj_aload_n 0 dX10_errorCode_0 rfl ?_
  refine mj_getf dX10_errorCode_1 fgX10_61 (by repeat (first | assumption | exact mup_s _ _ _ | rw [mup_n _ _ (by omega)])) rfl ?_
  refine mj_getf dX10_errorCode_4 fgX10_300 (by repeat (first | assumption | exact mup_s _ _ _ | rw [mup_n _ _ (by omega)])) rfl ?_
  exact mj_iret dX10_errorCode_7 rfl (Nat.le_of_ble_eq_true rfl) (Nat.le_of_ble_eq_true rfl) ⟨(by rw [← xfc]), rfl, rfl⟩
set_option maxRecDepth 100000 in
set_option maxHeartbeats 4000000 in
theorem cn_X10_errorPosition {K : KX} {n : Nat} {h : MH} {c : Nat} {P : CS} (x : Cp h n c P) : Con K mX10_errorPosition [.ref c] 0 0 n h (Ret (some (.int (pfp P))) n h) := by
  obtain ⟨ba, sa, Sp, S, H, A, V, Kx, x, xfc, xfp⟩ := x
  obtain ⟨c0, bd, sp, sv, ins, pf, mt, sh, tx, rd, ad, nn⟩ := id x
  have b0 := bd.1
  have b5 := bd.2.2.2.2.2.1
  have b6 := bd.2.2.2.2.2.2
  have adr := x.adr
  have rd0 := rd.1
  refine Con.of (by decide +kernel) (Nat.le_of_ble_eq_true rfl) ?_
  refine mj_aload_n 0 dX10_errorPosition_0 rfl ?_
  refine mj_getf dX10_errorPosition_1 fgX10_61 (by repeat (first | assumption | exact mup_s _ _ _ | rw [mup_n _ _ (by omega)])) rfl ?_
  refine mj_getf dX10_errorPosition_4 fgX10_303 (by repeat (first | assumption | exact mup_s _ _ _ | rw [mup_n _ _ (by omega)])) rfl ?_
  exact mj_iret dX10_errorPosition_7 rfl (Nat.le_of_ble_eq_true rfl) (Nat.le_of_ble_eq_true rfl) ⟨(by rw [← xfp]), rfl, rfl⟩
set_option maxRecDepth 100000 in
set_option maxHeartbeats 4000000 in
theorem cn_X10_isDone {K : KX} {n : Nat} {h : MH} {c : Nat} {P : CS} (x : Cp h n c P) {i : Int32} {d : Nat} (hi : i = nI d) (hd : d < bnd (pB P)) : Con K mX10_isDone [.ref c, .int i] 0 0 n h (Ret (some (.int (bI (ddo (bD (pB P) d))))) n h) := by
  obtain ⟨ba, sa, Sp, S, H, A, V, Kx, x, xfc, xfp⟩ := x
  obtain ⟨c0, bd, sp, sv, ins, pf, mt, sh, tx, rd, ad, nn⟩ := id x
  have b0 := bd.1
  have b5 := bd.2.2.2.2.2.1
  have b6 := bd.2.2.2.2.2.2
  have adr := x.adr
  obtain ⟨de, dt⟩ := bd.2.2.2.1 d (by omega)
  have dt0 := dt.1
  refine Con.of (by decide +kernel) (Nat.le_of_ble_eq_true rfl) ?_
  refine mj_aload_n 0 dX10_isDone_0 rfl ?_
  refine mj_getf dX10_isDone_1 fgX10_12 (by repeat (first | assumption | exact mup_s _ _ _ | rw [mup_n _ _ (by omega)])) rfl ?_
  refine mj_iload_n 1 dX10_isDone_4 rfl ?_
  refine mj_cV1 [_] (RX0, TX0, 5) dX10_isDone_5 cwX0_driver lkX10_99 (bd.1) rfl rfl rfl rfl (cn_X0_driver bd (j := d) hi hd) ⟨Nat.le_of_ble_eq_true rfl, Nat.le_of_ble_eq_true rfl, Nat.le_of_ble_eq_true rfl, Nat.le_of_ble_eq_true rfl, Nat.le_of_ble_eq_true rfl⟩ (fun h' e' => ?_)
  subst h'
  refine mj_getf dX10_isDone_8 fgX10_109 (by repeat (first | assumption | exact mup_s _ _ _ | rw [mup_n _ _ (by omega)])) rfl ?_
  exact mj_zret dX10_isDone_11 rfl (by cases (ddo (bD (pB P) d)); exact Or.inl rfl; exact Or.inr rfl) (Nat.le_of_ble_eq_true rfl) (Nat.le_of_ble_eq_true rfl) ⟨rfl, rfl, rfl⟩
set_option maxRecDepth 100000 in
set_option maxHeartbeats 4000000 in
theorem cn_X10_isDone_no {K : KX} {n : Nat} {h : MH} {c : Nat} {P : CS} (x : Cp h n c P) {i : Int32} (hi : b_in i 0 (nI (bnd (pB P)) - 1) = false) : Con K mX10_isDone [.ref c, .int i] 1 6 n h (Thr "java/lang/IndexOutOfBoundsException" n h) := by
  obtain ⟨ba, sa, Sp, S, H, A, V, Kx, x, xfc, xfp⟩ := x
  obtain ⟨c0, bd, sp, sv, ins, pf, mt, sh, tx, rd, ad, nn⟩ := id x
  have b0 := bd.1
  have b5 := bd.2.2.2.2.2.1
  have b6 := bd.2.2.2.2.2.2
  have adr := x.adr
  refine Con.of (by decide +kernel) (Nat.le_of_ble_eq_true rfl) ?_
  refine mj_aload_n 0 dX10_isDone_0 rfl ?_
  refine mj_getf dX10_isDone_1 fgX10_12 (by repeat (first | assumption | exact mup_s _ _ _ | rw [mup_n _ _ (by omega)])) rfl ?_
  refine mj_iload_n 1 dX10_isDone_4 rfl ?_
  exact mj_tV [_] (RX0, TX0, 5) dX10_isDone_5 cwX0_driver lkX10_99 (bd.1) rfl rfl rfl rfl rfl (cn_X0_driver_no bd hi) ⟨Nat.le_of_ble_eq_true rfl, Nat.le_of_ble_eq_true rfl, Nat.le_of_ble_eq_true rfl, Nat.le_of_ble_eq_true rfl, Nat.le_of_ble_eq_true rfl⟩ (fun n9 h9 q1 q2 => ⟨rfl, q1, q2⟩)
set_option maxRecDepth 100000 in
set_option maxHeartbeats 4000000 in
theorem cn_X10_driverCredit {K : KX} {n : Nat} {h : MH} {c : Nat} {P : CS} (x : Cp h n c P) {i : Int32} {d : Nat} (hi : i = nI d) (hd : d < bnd (pB P)) : Con K mX10_driverCredit [.ref c, .int i] 0 0 n h (Ret (some (.long (dcr (bD (pB P) d)))) n h) := by
  obtain ⟨ba, sa, Sp, S, H, A, V, Kx, x, xfc, xfp⟩ := x
  obtain ⟨c0, bd, sp, sv, ins, pf, mt, sh, tx, rd, ad, nn⟩ := id x
  have b0 := bd.1
  have b5 := bd.2.2.2.2.2.1
  have b6 := bd.2.2.2.2.2.2
  have adr := x.adr
  obtain ⟨de, dt⟩ := bd.2.2.2.1 d (by omega)
  have dt0 := dt.1
  refine Con.of (by decide +kernel) (Nat.le_of_ble_eq_true rfl) ?_
  refine mj_aload_n 0 dX10_driverCredit_0 rfl ?_
  refine mj_getf dX10_driverCredit_1 fgX10_12 (by repeat (first | assumption | exact mup_s _ _ _ | rw [mup_n _ _ (by omega)])) rfl ?_
  refine mj_iload_n 1 dX10_driverCredit_4 rfl ?_
  refine mj_cV1 [_] (RX0, TX0, 5) dX10_driverCredit_5 cwX0_driver lkX10_99 (bd.1) rfl rfl rfl rfl (cn_X0_driver bd (j := d) hi hd) ⟨Nat.le_of_ble_eq_true rfl, Nat.le_of_ble_eq_true rfl, Nat.le_of_ble_eq_true rfl, Nat.le_of_ble_eq_true rfl, Nat.le_of_ble_eq_true rfl⟩ (fun h' e' => ?_)
  subst h'
  refine mj_getf dX10_driverCredit_8 fgX10_247 (by repeat (first | assumption | exact mup_s _ _ _ | rw [mup_n _ _ (by omega)])) rfl ?_
  exact mj_lret dX10_driverCredit_11 rfl (Nat.le_of_ble_eq_true rfl) (Nat.le_of_ble_eq_true rfl) ⟨rfl, rfl, rfl⟩
set_option maxRecDepth 100000 in
set_option maxHeartbeats 4000000 in
theorem cn_X10_driverCredit_no {K : KX} {n : Nat} {h : MH} {c : Nat} {P : CS} (x : Cp h n c P) {i : Int32} (hi : b_in i 0 (nI (bnd (pB P)) - 1) = false) : Con K mX10_driverCredit [.ref c, .int i] 1 6 n h (Thr "java/lang/IndexOutOfBoundsException" n h) := by
  obtain ⟨ba, sa, Sp, S, H, A, V, Kx, x, xfc, xfp⟩ := x
  obtain ⟨c0, bd, sp, sv, ins, pf, mt, sh, tx, rd, ad, nn⟩ := id x
  have b0 := bd.1
  have b5 := bd.2.2.2.2.2.1
  have b6 := bd.2.2.2.2.2.2
  have adr := x.adr
  refine Con.of (by decide +kernel) (Nat.le_of_ble_eq_true rfl) ?_
  refine mj_aload_n 0 dX10_driverCredit_0 rfl ?_
  refine mj_getf dX10_driverCredit_1 fgX10_12 (by repeat (first | assumption | exact mup_s _ _ _ | rw [mup_n _ _ (by omega)])) rfl ?_
  refine mj_iload_n 1 dX10_driverCredit_4 rfl ?_
  exact mj_tV [_] (RX0, TX0, 5) dX10_driverCredit_5 cwX0_driver lkX10_99 (bd.1) rfl rfl rfl rfl rfl (cn_X0_driver_no bd hi) ⟨Nat.le_of_ble_eq_true rfl, Nat.le_of_ble_eq_true rfl, Nat.le_of_ble_eq_true rfl, Nat.le_of_ble_eq_true rfl, Nat.le_of_ble_eq_true rfl⟩ (fun n9 h9 q1 q2 => ⟨rfl, q1, q2⟩)
set_option maxRecDepth 100000 in
set_option maxHeartbeats 4000000 in
theorem cn_X10_riderState {K : KX} {n : Nat} {h : MH} {c : Nat} {P : CS} (x : Cp h n c P) {i : Int32} {r : Nat} (hi : i = nI r) (hr : r < bnr (pB P)) : Con K mX10_riderState [.ref c, .int i] 0 0 n h (Ret (some (.int (qst (bX (pB P) r)))) n h) := by
  obtain ⟨ba, sa, Sp, S, H, A, V, Kx, x, xfc, xfp⟩ := x
  obtain ⟨c0, bd, sp, sv, ins, pf, mt, sh, tx, rd, ad, nn⟩ := id x
  have b0 := bd.1
  have b5 := bd.2.2.2.2.2.1
  have b6 := bd.2.2.2.2.2.2
  have adr := x.adr
  have re := bd.2.2.2.2.1 r (by omega)
  refine Con.of (by decide +kernel) (Nat.le_of_ble_eq_true rfl) ?_
  refine mj_aload_n 0 dX10_riderState_0 rfl ?_
  refine mj_getf dX10_riderState_1 fgX10_12 (by repeat (first | assumption | exact mup_s _ _ _ | rw [mup_n _ _ (by omega)])) rfl ?_
  refine mj_iload_n 1 dX10_riderState_4 rfl ?_
  refine mj_cV1 [_] (RX0, TX0, 5) dX10_riderState_5 cwX0_rider lkX10_152 (bd.1) rfl rfl rfl rfl (cn_X0_rider bd (j := r) hi hr) ⟨Nat.le_of_ble_eq_true rfl, Nat.le_of_ble_eq_true rfl, Nat.le_of_ble_eq_true rfl, Nat.le_of_ble_eq_true rfl, Nat.le_of_ble_eq_true rfl⟩ (fun h' e' => ?_)
  subst h'
  refine mj_getf dX10_riderState_8 fgX10_156 (by repeat (first | assumption | exact mup_s _ _ _ | rw [mup_n _ _ (by omega)])) rfl ?_
  exact mj_iret dX10_riderState_11 rfl (Nat.le_of_ble_eq_true rfl) (Nat.le_of_ble_eq_true rfl) ⟨rfl, rfl, rfl⟩
set_option maxRecDepth 100000 in
set_option maxHeartbeats 4000000 in
theorem cn_X10_riderState_no {K : KX} {n : Nat} {h : MH} {c : Nat} {P : CS} (x : Cp h n c P) {i : Int32} (hi : b_in i 0 (nI (bnr (pB P)) - 1) = false) : Con K mX10_riderState [.ref c, .int i] 1 6 n h (Thr "java/lang/IndexOutOfBoundsException" n h) := by
  obtain ⟨ba, sa, Sp, S, H, A, V, Kx, x, xfc, xfp⟩ := x
  obtain ⟨c0, bd, sp, sv, ins, pf, mt, sh, tx, rd, ad, nn⟩ := id x
  have b0 := bd.1
  have b5 := bd.2.2.2.2.2.1
  have b6 := bd.2.2.2.2.2.2
  have adr := x.adr
  refine Con.of (by decide +kernel) (Nat.le_of_ble_eq_true rfl) ?_
  refine mj_aload_n 0 dX10_riderState_0 rfl ?_
  refine mj_getf dX10_riderState_1 fgX10_12 (by repeat (first | assumption | exact mup_s _ _ _ | rw [mup_n _ _ (by omega)])) rfl ?_
  refine mj_iload_n 1 dX10_riderState_4 rfl ?_
  exact mj_tV [_] (RX0, TX0, 5) dX10_riderState_5 cwX0_rider lkX10_152 (bd.1) rfl rfl rfl rfl rfl (cn_X0_rider_no bd hi) ⟨Nat.le_of_ble_eq_true rfl, Nat.le_of_ble_eq_true rfl, Nat.le_of_ble_eq_true rfl, Nat.le_of_ble_eq_true rfl, Nat.le_of_ble_eq_true rfl⟩ (fun n9 h9 q1 q2 => ⟨rfl, q1, q2⟩)
set_option maxRecDepth 100000 in
set_option maxHeartbeats 4000000 in
theorem cn_X10_driverOf {K : KX} {n : Nat} {h : MH} {c : Nat} {P : CS} (x : Cp h n c P) {i : Int32} {r : Nat} (hi : i = nI r) (hr : r < bnr (pB P)) : Con K mX10_driverOf [.ref c, .int i] 0 0 n h (Ret (some (.int (qdr (bX (pB P) r)))) n h) := by
  obtain ⟨ba, sa, Sp, S, H, A, V, Kx, x, xfc, xfp⟩ := x
  obtain ⟨c0, bd, sp, sv, ins, pf, mt, sh, tx, rd, ad, nn⟩ := id x
  have b0 := bd.1
  have b5 := bd.2.2.2.2.2.1
  have b6 := bd.2.2.2.2.2.2
  have adr := x.adr
  have re := bd.2.2.2.2.1 r (by omega)
  refine Con.of (by decide +kernel) (Nat.le_of_ble_eq_true rfl) ?_
  refine mj_aload_n 0 dX10_driverOf_0 rfl ?_
  refine mj_getf dX10_driverOf_1 fgX10_12 (by repeat (first | assumption | exact mup_s _ _ _ | rw [mup_n _ _ (by omega)])) rfl ?_
  refine mj_iload_n 1 dX10_driverOf_4 rfl ?_
  refine mj_cV1 [_] (RX0, TX0, 5) dX10_driverOf_5 cwX0_rider lkX10_152 (bd.1) rfl rfl rfl rfl (cn_X0_rider bd (j := r) hi hr) ⟨Nat.le_of_ble_eq_true rfl, Nat.le_of_ble_eq_true rfl, Nat.le_of_ble_eq_true rfl, Nat.le_of_ble_eq_true rfl, Nat.le_of_ble_eq_true rfl⟩ (fun h' e' => ?_)
  subst h'
  refine mj_getf dX10_driverOf_8 fgX10_159 (by repeat (first | assumption | exact mup_s _ _ _ | rw [mup_n _ _ (by omega)])) rfl ?_
  exact mj_iret dX10_driverOf_11 rfl (Nat.le_of_ble_eq_true rfl) (Nat.le_of_ble_eq_true rfl) ⟨rfl, rfl, rfl⟩
set_option maxRecDepth 100000 in
set_option maxHeartbeats 4000000 in
theorem cn_X10_driverOf_no {K : KX} {n : Nat} {h : MH} {c : Nat} {P : CS} (x : Cp h n c P) {i : Int32} (hi : b_in i 0 (nI (bnr (pB P)) - 1) = false) : Con K mX10_driverOf [.ref c, .int i] 1 6 n h (Thr "java/lang/IndexOutOfBoundsException" n h) := by
  obtain ⟨ba, sa, Sp, S, H, A, V, Kx, x, xfc, xfp⟩ := x
  obtain ⟨c0, bd, sp, sv, ins, pf, mt, sh, tx, rd, ad, nn⟩ := id x
  have b0 := bd.1
  have b5 := bd.2.2.2.2.2.1
  have b6 := bd.2.2.2.2.2.2
  have adr := x.adr
  refine Con.of (by decide +kernel) (Nat.le_of_ble_eq_true rfl) ?_
  refine mj_aload_n 0 dX10_driverOf_0 rfl ?_
  refine mj_getf dX10_driverOf_1 fgX10_12 (by repeat (first | assumption | exact mup_s _ _ _ | rw [mup_n _ _ (by omega)])) rfl ?_
  refine mj_iload_n 1 dX10_driverOf_4 rfl ?_
  exact mj_tV [_] (RX0, TX0, 5) dX10_driverOf_5 cwX0_rider lkX10_152 (bd.1) rfl rfl rfl rfl rfl (cn_X0_rider_no bd hi) ⟨Nat.le_of_ble_eq_true rfl, Nat.le_of_ble_eq_true rfl, Nat.le_of_ble_eq_true rfl, Nat.le_of_ble_eq_true rfl, Nat.le_of_ble_eq_true rfl⟩ (fun n9 h9 q1 q2 => ⟨rfl, q1, q2⟩)
set_option maxRecDepth 100000 in
set_option maxHeartbeats 4000000 in
theorem cn_X10_riderCredit {K : KX} {n : Nat} {h : MH} {c : Nat} {P : CS} (x : Cp h n c P) {i : Int32} {r : Nat} (hi : i = nI r) (hr : r < bnr (pB P)) : Con K mX10_riderCredit [.ref c, .int i] 0 0 n h (Ret (some (.long (qcr (bX (pB P) r)))) n h) := by
  obtain ⟨ba, sa, Sp, S, H, A, V, Kx, x, xfc, xfp⟩ := x
  obtain ⟨c0, bd, sp, sv, ins, pf, mt, sh, tx, rd, ad, nn⟩ := id x
  have b0 := bd.1
  have b5 := bd.2.2.2.2.2.1
  have b6 := bd.2.2.2.2.2.2
  have adr := x.adr
  have re := bd.2.2.2.2.1 r (by omega)
  refine Con.of (by decide +kernel) (Nat.le_of_ble_eq_true rfl) ?_
  refine mj_aload_n 0 dX10_riderCredit_0 rfl ?_
  refine mj_getf dX10_riderCredit_1 fgX10_12 (by repeat (first | assumption | exact mup_s _ _ _ | rw [mup_n _ _ (by omega)])) rfl ?_
  refine mj_iload_n 1 dX10_riderCredit_4 rfl ?_
  refine mj_cV1 [_] (RX0, TX0, 5) dX10_riderCredit_5 cwX0_rider lkX10_152 (bd.1) rfl rfl rfl rfl (cn_X0_rider bd (j := r) hi hr) ⟨Nat.le_of_ble_eq_true rfl, Nat.le_of_ble_eq_true rfl, Nat.le_of_ble_eq_true rfl, Nat.le_of_ble_eq_true rfl, Nat.le_of_ble_eq_true rfl⟩ (fun h' e' => ?_)
  subst h'
  refine mj_getf dX10_riderCredit_8 fgX10_243 (by repeat (first | assumption | exact mup_s _ _ _ | rw [mup_n _ _ (by omega)])) rfl ?_
  exact mj_lret dX10_riderCredit_11 rfl (Nat.le_of_ble_eq_true rfl) (Nat.le_of_ble_eq_true rfl) ⟨rfl, rfl, rfl⟩
set_option maxRecDepth 100000 in
set_option maxHeartbeats 4000000 in
theorem cn_X10_riderCredit_no {K : KX} {n : Nat} {h : MH} {c : Nat} {P : CS} (x : Cp h n c P) {i : Int32} (hi : b_in i 0 (nI (bnr (pB P)) - 1) = false) : Con K mX10_riderCredit [.ref c, .int i] 1 6 n h (Thr "java/lang/IndexOutOfBoundsException" n h) := by
  obtain ⟨ba, sa, Sp, S, H, A, V, Kx, x, xfc, xfp⟩ := x
  obtain ⟨c0, bd, sp, sv, ins, pf, mt, sh, tx, rd, ad, nn⟩ := id x
  have b0 := bd.1
  have b5 := bd.2.2.2.2.2.1
  have b6 := bd.2.2.2.2.2.2
  have adr := x.adr
  refine Con.of (by decide +kernel) (Nat.le_of_ble_eq_true rfl) ?_
  refine mj_aload_n 0 dX10_riderCredit_0 rfl ?_
  refine mj_getf dX10_riderCredit_1 fgX10_12 (by repeat (first | assumption | exact mup_s _ _ _ | rw [mup_n _ _ (by omega)])) rfl ?_
  refine mj_iload_n 1 dX10_riderCredit_4 rfl ?_
  exact mj_tV [_] (RX0, TX0, 5) dX10_riderCredit_5 cwX0_rider lkX10_152 (bd.1) rfl rfl rfl rfl rfl (cn_X0_rider_no bd hi) ⟨Nat.le_of_ble_eq_true rfl, Nat.le_of_ble_eq_true rfl, Nat.le_of_ble_eq_true rfl, Nat.le_of_ble_eq_true rfl, Nat.le_of_ble_eq_true rfl⟩ (fun n9 h9 q1 q2 => ⟨rfl, q1, q2⟩)
set_option maxRecDepth 100000 in
set_option maxHeartbeats 4000000 in
theorem cn_X10_ridersOf {K : KX} {n : Nat} {h : MH} {c : Nat} {P : CS} (x : Cp h n c P) {i : Int32} {d : Nat} (hi : i = nI d) (hd : d < bnd (pB P)) : Con K mX10_ridersOf [.ref c, .int i] 0 0 n h (Ret (some (.int (r_mask (bT (pB P) d)))) n h) := by
  obtain ⟨ba, sa, Sp, S, H, A, V, Kx, x, xfc, xfp⟩ := x
  obtain ⟨c0, bd, sp, sv, ins, pf, mt, sh, tx, rd, ad, nn⟩ := id x
  have b0 := bd.1
  have b5 := bd.2.2.2.2.2.1
  have b6 := bd.2.2.2.2.2.2
  have adr := x.adr
  obtain ⟨de, dt⟩ := bd.2.2.2.1 d (by omega)
  have dt0 := dt.1
  refine Con.of (by decide +kernel) (Nat.le_of_ble_eq_true rfl) ?_
  refine mj_aload_n 0 dX10_ridersOf_0 rfl ?_
  refine mj_getf dX10_ridersOf_1 fgX10_12 (by repeat (first | assumption | exact mup_s _ _ _ | rw [mup_n _ _ (by omega)])) rfl ?_
  refine mj_iload_n 1 dX10_ridersOf_4 rfl ?_
  refine mj_cV1 [_] (RX0, TX0, 5) dX10_ridersOf_5 cwX0_driver lkX10_99 (bd.1) rfl rfl rfl rfl (cn_X0_driver bd (j := d) hi hd) ⟨Nat.le_of_ble_eq_true rfl, Nat.le_of_ble_eq_true rfl, Nat.le_of_ble_eq_true rfl, Nat.le_of_ble_eq_true rfl, Nat.le_of_ble_eq_true rfl⟩ (fun h' e' => ?_)
  subst h'
  refine mj_getf dX10_ridersOf_8 fgX10_113 (by repeat (first | assumption | exact mup_s _ _ _ | rw [mup_n _ _ (by omega)])) rfl ?_
  refine mj_cV1 [] (RX6, TX6, 5) dX10_ridersOf_11 cwX6_riderMask lkX10_161 (dt.1) rfl rfl rfl rfl (cn_X6_riderMask dt) ⟨Nat.le_of_ble_eq_true rfl, Nat.le_of_ble_eq_true rfl, Nat.le_of_ble_eq_true rfl, Nat.le_of_ble_eq_true rfl, Nat.le_of_ble_eq_true rfl⟩ (fun h' e' => ?_)
  subst h'
  exact mj_iret dX10_ridersOf_14 rfl (Nat.le_of_ble_eq_true rfl) (Nat.le_of_ble_eq_true rfl) ⟨rfl, rfl, rfl⟩
set_option maxRecDepth 100000 in
set_option maxHeartbeats 4000000 in
theorem cn_X10_ridersOf_no {K : KX} {n : Nat} {h : MH} {c : Nat} {P : CS} (x : Cp h n c P) {i : Int32} (hi : b_in i 0 (nI (bnd (pB P)) - 1) = false) : Con K mX10_ridersOf [.ref c, .int i] 1 6 n h (Thr "java/lang/IndexOutOfBoundsException" n h) := by
  obtain ⟨ba, sa, Sp, S, H, A, V, Kx, x, xfc, xfp⟩ := x
  obtain ⟨c0, bd, sp, sv, ins, pf, mt, sh, tx, rd, ad, nn⟩ := id x
  have b0 := bd.1
  have b5 := bd.2.2.2.2.2.1
  have b6 := bd.2.2.2.2.2.2
  have adr := x.adr
  refine Con.of (by decide +kernel) (Nat.le_of_ble_eq_true rfl) ?_
  refine mj_aload_n 0 dX10_ridersOf_0 rfl ?_
  refine mj_getf dX10_ridersOf_1 fgX10_12 (by repeat (first | assumption | exact mup_s _ _ _ | rw [mup_n _ _ (by omega)])) rfl ?_
  refine mj_iload_n 1 dX10_ridersOf_4 rfl ?_
  exact mj_tV [_] (RX0, TX0, 5) dX10_ridersOf_5 cwX0_driver lkX10_99 (bd.1) rfl rfl rfl rfl rfl (cn_X0_driver_no bd hi) ⟨Nat.le_of_ble_eq_true rfl, Nat.le_of_ble_eq_true rfl, Nat.le_of_ble_eq_true rfl, Nat.le_of_ble_eq_true rfl, Nat.le_of_ble_eq_true rfl⟩ (fun n9 h9 q1 q2 => ⟨rfl, q1, q2⟩)
set_option maxRecDepth 100000 in
set_option maxHeartbeats 4000000 in
theorem cn_X10_stopCount {K : KX} {n : Nat} {h : MH} {c : Nat} {P : CS} (x : Cp h n c P) {i : Int32} {d : Nat} (hi : i = nI d) (hd : d < bnd (pB P)) : Con K mX10_stopCount [.ref c, .int i] 0 0 n h (Ret (some (.int (nI (rn (bT (pB P) d))))) n h) := by
  obtain ⟨ba, sa, Sp, S, H, A, V, Kx, x, xfc, xfp⟩ := x
  obtain ⟨c0, bd, sp, sv, ins, pf, mt, sh, tx, rd, ad, nn⟩ := id x
  have b0 := bd.1
  have b5 := bd.2.2.2.2.2.1
  have b6 := bd.2.2.2.2.2.2
  have adr := x.adr
  obtain ⟨de, dt⟩ := bd.2.2.2.1 d (by omega)
  have dt0 := dt.1
  refine Con.of (by decide +kernel) (Nat.le_of_ble_eq_true rfl) ?_
  refine mj_aload_n 0 dX10_stopCount_0 rfl ?_
  refine mj_getf dX10_stopCount_1 fgX10_12 (by repeat (first | assumption | exact mup_s _ _ _ | rw [mup_n _ _ (by omega)])) rfl ?_
  refine mj_iload_n 1 dX10_stopCount_4 rfl ?_
  refine mj_cV1 [_] (RX0, TX0, 5) dX10_stopCount_5 cwX0_driver lkX10_99 (bd.1) rfl rfl rfl rfl (cn_X0_driver bd (j := d) hi hd) ⟨Nat.le_of_ble_eq_true rfl, Nat.le_of_ble_eq_true rfl, Nat.le_of_ble_eq_true rfl, Nat.le_of_ble_eq_true rfl, Nat.le_of_ble_eq_true rfl⟩ (fun h' e' => ?_)
  subst h'
  refine mj_getf dX10_stopCount_8 fgX10_113 (by repeat (first | assumption | exact mup_s _ _ _ | rw [mup_n _ _ (by omega)])) rfl ?_
  refine mj_getf dX10_stopCount_11 fgX10_169 (by repeat (first | assumption | exact mup_s _ _ _ | rw [mup_n _ _ (by omega)])) rfl ?_
  exact mj_iret dX10_stopCount_14 rfl (Nat.le_of_ble_eq_true rfl) (Nat.le_of_ble_eq_true rfl) ⟨rfl, rfl, rfl⟩
set_option maxRecDepth 100000 in
set_option maxHeartbeats 4000000 in
theorem cn_X10_stopCount_no {K : KX} {n : Nat} {h : MH} {c : Nat} {P : CS} (x : Cp h n c P) {i : Int32} (hi : b_in i 0 (nI (bnd (pB P)) - 1) = false) : Con K mX10_stopCount [.ref c, .int i] 1 6 n h (Thr "java/lang/IndexOutOfBoundsException" n h) := by
  obtain ⟨ba, sa, Sp, S, H, A, V, Kx, x, xfc, xfp⟩ := x
  obtain ⟨c0, bd, sp, sv, ins, pf, mt, sh, tx, rd, ad, nn⟩ := id x
  have b0 := bd.1
  have b5 := bd.2.2.2.2.2.1
  have b6 := bd.2.2.2.2.2.2
  have adr := x.adr
  refine Con.of (by decide +kernel) (Nat.le_of_ble_eq_true rfl) ?_
  refine mj_aload_n 0 dX10_stopCount_0 rfl ?_
  refine mj_getf dX10_stopCount_1 fgX10_12 (by repeat (first | assumption | exact mup_s _ _ _ | rw [mup_n _ _ (by omega)])) rfl ?_
  refine mj_iload_n 1 dX10_stopCount_4 rfl ?_
  exact mj_tV [_] (RX0, TX0, 5) dX10_stopCount_5 cwX0_driver lkX10_99 (bd.1) rfl rfl rfl rfl rfl (cn_X0_driver_no bd hi) ⟨Nat.le_of_ble_eq_true rfl, Nat.le_of_ble_eq_true rfl, Nat.le_of_ble_eq_true rfl, Nat.le_of_ble_eq_true rfl, Nat.le_of_ble_eq_true rfl⟩ (fun n9 h9 q1 q2 => ⟨rfl, q1, q2⟩)
set_option maxRecDepth 100000 in
set_option maxHeartbeats 4000000 in
theorem cn_X10_routeLength {K : KX} {n : Nat} {h : MH} {c : Nat} {P : CS} (x : Cp h n c P) {i : Int32} {d : Nat} (hi : i = nI d) (hd : d < bnd (pB P)) (ht : 2 ≤ rn (bT (pB P) d)) : Con K mX10_routeLength [.ref c, .int i] 0 0 n h (Ret (some (.int (r_len (bT (pB P) d)))) n h) := by
  obtain ⟨ba, sa, Sp, S, H, A, V, Kx, x, xfc, xfp⟩ := x
  obtain ⟨c0, bd, sp, sv, ins, pf, mt, sh, tx, rd, ad, nn⟩ := id x
  have b0 := bd.1
  have b5 := bd.2.2.2.2.2.1
  have b6 := bd.2.2.2.2.2.2
  have adr := x.adr
  obtain ⟨de, dt⟩ := bd.2.2.2.1 d (by omega)
  have dt0 := dt.1
  refine Con.of (by decide +kernel) (Nat.le_of_ble_eq_true rfl) ?_
  refine mj_aload_n 0 dX10_routeLength_0 rfl ?_
  refine mj_getf dX10_routeLength_1 fgX10_12 (by repeat (first | assumption | exact mup_s _ _ _ | rw [mup_n _ _ (by omega)])) rfl ?_
  refine mj_iload_n 1 dX10_routeLength_4 rfl ?_
  refine mj_cV1 [_] (RX0, TX0, 5) dX10_routeLength_5 cwX0_driver lkX10_99 (bd.1) rfl rfl rfl rfl (cn_X0_driver bd (j := d) hi hd) ⟨Nat.le_of_ble_eq_true rfl, Nat.le_of_ble_eq_true rfl, Nat.le_of_ble_eq_true rfl, Nat.le_of_ble_eq_true rfl, Nat.le_of_ble_eq_true rfl⟩ (fun h' e' => ?_)
  subst h'
  refine mj_getf dX10_routeLength_8 fgX10_113 (by repeat (first | assumption | exact mup_s _ _ _ | rw [mup_n _ _ (by omega)])) rfl ?_
  refine mj_cV1 [] (RX6, TX6, 5) dX10_routeLength_11 cwX6_length lkX10_187 (dt.1) rfl rfl rfl rfl (cn_X6_length dt (by omega)) ⟨Nat.le_of_ble_eq_true rfl, Nat.le_of_ble_eq_true rfl, Nat.le_of_ble_eq_true rfl, Nat.le_of_ble_eq_true rfl, Nat.le_of_ble_eq_true rfl⟩ (fun h' e' => ?_)
  subst h'
  exact mj_iret dX10_routeLength_14 rfl (Nat.le_of_ble_eq_true rfl) (Nat.le_of_ble_eq_true rfl) ⟨rfl, rfl, rfl⟩
set_option maxRecDepth 100000 in
set_option maxHeartbeats 4000000 in
theorem cn_X10_routeLength_no {K : KX} {n : Nat} {h : MH} {c : Nat} {P : CS} (x : Cp h n c P) {i : Int32} (hi : b_in i 0 (nI (bnd (pB P)) - 1) = false) : Con K mX10_routeLength [.ref c, .int i] 1 6 n h (Thr "java/lang/IndexOutOfBoundsException" n h) := by
  obtain ⟨ba, sa, Sp, S, H, A, V, Kx, x, xfc, xfp⟩ := x
  obtain ⟨c0, bd, sp, sv, ins, pf, mt, sh, tx, rd, ad, nn⟩ := id x
  have b0 := bd.1
  have b5 := bd.2.2.2.2.2.1
  have b6 := bd.2.2.2.2.2.2
  have adr := x.adr
  refine Con.of (by decide +kernel) (Nat.le_of_ble_eq_true rfl) ?_
  refine mj_aload_n 0 dX10_routeLength_0 rfl ?_
  refine mj_getf dX10_routeLength_1 fgX10_12 (by repeat (first | assumption | exact mup_s _ _ _ | rw [mup_n _ _ (by omega)])) rfl ?_
  refine mj_iload_n 1 dX10_routeLength_4 rfl ?_
  exact mj_tV [_] (RX0, TX0, 5) dX10_routeLength_5 cwX0_driver lkX10_99 (bd.1) rfl rfl rfl rfl rfl (cn_X0_driver_no bd hi) ⟨Nat.le_of_ble_eq_true rfl, Nat.le_of_ble_eq_true rfl, Nat.le_of_ble_eq_true rfl, Nat.le_of_ble_eq_true rfl, Nat.le_of_ble_eq_true rfl⟩ (fun n9 h9 q1 q2 => ⟨rfl, q1, q2⟩)
set_option maxRecDepth 100000 in
set_option maxHeartbeats 4000000 in
theorem cn_X10_detour {K : KX} {n : Nat} {h : MH} {c : Nat} {P : CS} (x : Cp h n c P) {i : Int32} {d : Nat} (hi : i = nI d) (hd : d < bnd (pB P)) (ht : 2 ≤ rn (bT (pB P) d)) : Con K mX10_detour [.ref c, .int i] 0 0 n h (Ret (some (.int (r_det (bT (pB P) d)))) n h) := by
  obtain ⟨ba, sa, Sp, S, H, A, V, Kx, x, xfc, xfp⟩ := x
  obtain ⟨c0, bd, sp, sv, ins, pf, mt, sh, tx, rd, ad, nn⟩ := id x
  have b0 := bd.1
  have b5 := bd.2.2.2.2.2.1
  have b6 := bd.2.2.2.2.2.2
  have adr := x.adr
  obtain ⟨de, dt⟩ := bd.2.2.2.1 d (by omega)
  have dt0 := dt.1
  refine Con.of (by decide +kernel) (Nat.le_of_ble_eq_true rfl) ?_
  refine mj_aload_n 0 dX10_detour_0 rfl ?_
  refine mj_getf dX10_detour_1 fgX10_12 (by repeat (first | assumption | exact mup_s _ _ _ | rw [mup_n _ _ (by omega)])) rfl ?_
  refine mj_iload_n 1 dX10_detour_4 rfl ?_
  refine mj_cV1 [_] (RX0, TX0, 5) dX10_detour_5 cwX0_driver lkX10_99 (bd.1) rfl rfl rfl rfl (cn_X0_driver bd (j := d) hi hd) ⟨Nat.le_of_ble_eq_true rfl, Nat.le_of_ble_eq_true rfl, Nat.le_of_ble_eq_true rfl, Nat.le_of_ble_eq_true rfl, Nat.le_of_ble_eq_true rfl⟩ (fun h' e' => ?_)
  subst h'
  refine mj_getf dX10_detour_8 fgX10_113 (by repeat (first | assumption | exact mup_s _ _ _ | rw [mup_n _ _ (by omega)])) rfl ?_
  refine mj_cV1 [] (RX6, TX6, 5) dX10_detour_11 cwX6_detourLength lkX10_190 (dt.1) rfl rfl rfl rfl (cn_X6_detourLength dt (by omega)) ⟨Nat.le_of_ble_eq_true rfl, Nat.le_of_ble_eq_true rfl, Nat.le_of_ble_eq_true rfl, Nat.le_of_ble_eq_true rfl, Nat.le_of_ble_eq_true rfl⟩ (fun h' e' => ?_)
  subst h'
  exact mj_iret dX10_detour_14 rfl (Nat.le_of_ble_eq_true rfl) (Nat.le_of_ble_eq_true rfl) ⟨rfl, rfl, rfl⟩
set_option maxRecDepth 100000 in
set_option maxHeartbeats 4000000 in
theorem cn_X10_detour_no {K : KX} {n : Nat} {h : MH} {c : Nat} {P : CS} (x : Cp h n c P) {i : Int32} (hi : b_in i 0 (nI (bnd (pB P)) - 1) = false) : Con K mX10_detour [.ref c, .int i] 1 6 n h (Thr "java/lang/IndexOutOfBoundsException" n h) := by
  obtain ⟨ba, sa, Sp, S, H, A, V, Kx, x, xfc, xfp⟩ := x
  obtain ⟨c0, bd, sp, sv, ins, pf, mt, sh, tx, rd, ad, nn⟩ := id x
  have b0 := bd.1
  have b5 := bd.2.2.2.2.2.1
  have b6 := bd.2.2.2.2.2.2
  have adr := x.adr
  refine Con.of (by decide +kernel) (Nat.le_of_ble_eq_true rfl) ?_
  refine mj_aload_n 0 dX10_detour_0 rfl ?_
  refine mj_getf dX10_detour_1 fgX10_12 (by repeat (first | assumption | exact mup_s _ _ _ | rw [mup_n _ _ (by omega)])) rfl ?_
  refine mj_iload_n 1 dX10_detour_4 rfl ?_
  exact mj_tV [_] (RX0, TX0, 5) dX10_detour_5 cwX0_driver lkX10_99 (bd.1) rfl rfl rfl rfl rfl (cn_X0_driver_no bd hi) ⟨Nat.le_of_ble_eq_true rfl, Nat.le_of_ble_eq_true rfl, Nat.le_of_ble_eq_true rfl, Nat.le_of_ble_eq_true rfl, Nat.le_of_ble_eq_true rfl⟩ (fun n9 h9 q1 q2 => ⟨rfl, q1, q2⟩)
set_option maxRecDepth 100000 in
set_option maxHeartbeats 4000000 in
theorem cn_X10_tripCost {K : KX} {n : Nat} {h : MH} {c : Nat} {P : CS} (x : Cp h n c P) {i : Int32} {d : Nat} (hi : i = nI d) (hd : d < bnd (pB P)) (ht : 2 ≤ rn (bT (pB P) d)) : Con K mX10_tripCost [.ref c, .int i] 0 0 n h (Ret (some (.int (r_len (bT (pB P) d) * dra (bD (pB P) d)))) n h) := by
  obtain ⟨ba, sa, Sp, S, H, A, V, Kx, x, xfc, xfp⟩ := x
  obtain ⟨c0, bd, sp, sv, ins, pf, mt, sh, tx, rd, ad, nn⟩ := id x
  have b0 := bd.1
  have b5 := bd.2.2.2.2.2.1
  have b6 := bd.2.2.2.2.2.2
  have adr := x.adr
  obtain ⟨de, dt⟩ := bd.2.2.2.1 d (by omega)
  have dt0 := dt.1
  refine Con.of (by decide +kernel) (Nat.le_of_ble_eq_true rfl) ?_
  refine mj_aload_n 0 dX10_tripCost_0 rfl ?_
  refine mj_getf dX10_tripCost_1 fgX10_12 (by repeat (first | assumption | exact mup_s _ _ _ | rw [mup_n _ _ (by omega)])) rfl ?_
  refine mj_iload_n 1 dX10_tripCost_4 rfl ?_
  refine mj_cV1 [_] (RX0, TX0, 5) dX10_tripCost_5 cwX0_driver lkX10_99 (bd.1) rfl rfl rfl rfl (cn_X0_driver bd (j := d) hi hd) ⟨Nat.le_of_ble_eq_true rfl, Nat.le_of_ble_eq_true rfl, Nat.le_of_ble_eq_true rfl, Nat.le_of_ble_eq_true rfl, Nat.le_of_ble_eq_true rfl⟩ (fun h' e' => ?_)
  subst h'
  refine mj_astore_n (ls' := [(2, _), (0, _), (1, _)]) dX10_tripCost_8 (Nat.le_of_ble_eq_true rfl) rfl ?_
  refine mj_aload_n 0 dX10_tripCost_9 rfl ?_
  refine mj_getf dX10_tripCost_10 fgX10_113 (by repeat (first | assumption | exact mup_s _ _ _ | rw [mup_n _ _ (by omega)])) rfl ?_
  refine mj_cV1 [] (RX6, TX6, 5) dX10_tripCost_13 cwX6_length lkX10_187 (dt.1) rfl rfl rfl rfl (cn_X6_length dt (by omega)) ⟨Nat.le_of_ble_eq_true rfl, Nat.le_of_ble_eq_true rfl, Nat.le_of_ble_eq_true rfl, Nat.le_of_ble_eq_true rfl, Nat.le_of_ble_eq_true rfl⟩ (fun h' e' => ?_)
  subst h'
  refine mj_aload_n 0 dX10_tripCost_16 rfl ?_
  refine mj_getf dX10_tripCost_17 fgX10_253 (by repeat (first | assumption | exact mup_s _ _ _ | rw [mup_n _ _ (by omega)])) rfl ?_
  refine mj_imul dX10_tripCost_20 ?_
  exact mj_iret dX10_tripCost_21 rfl (Nat.le_of_ble_eq_true rfl) (Nat.le_of_ble_eq_true rfl) ⟨rfl, rfl, rfl⟩
set_option maxRecDepth 100000 in
set_option maxHeartbeats 4000000 in
theorem cn_X10_tripCost_no {K : KX} {n : Nat} {h : MH} {c : Nat} {P : CS} (x : Cp h n c P) {i : Int32} (hi : b_in i 0 (nI (bnd (pB P)) - 1) = false) : Con K mX10_tripCost [.ref c, .int i] 1 6 n h (Thr "java/lang/IndexOutOfBoundsException" n h) := by
  obtain ⟨ba, sa, Sp, S, H, A, V, Kx, x, xfc, xfp⟩ := x
  obtain ⟨c0, bd, sp, sv, ins, pf, mt, sh, tx, rd, ad, nn⟩ := id x
  have b0 := bd.1
  have b5 := bd.2.2.2.2.2.1
  have b6 := bd.2.2.2.2.2.2
  have adr := x.adr
  refine Con.of (by decide +kernel) (Nat.le_of_ble_eq_true rfl) ?_
  refine mj_aload_n 0 dX10_tripCost_0 rfl ?_
  refine mj_getf dX10_tripCost_1 fgX10_12 (by repeat (first | assumption | exact mup_s _ _ _ | rw [mup_n _ _ (by omega)])) rfl ?_
  refine mj_iload_n 1 dX10_tripCost_4 rfl ?_
  exact mj_tV [_] (RX0, TX0, 5) dX10_tripCost_5 cwX0_driver lkX10_99 (bd.1) rfl rfl rfl rfl rfl (cn_X0_driver_no bd hi) ⟨Nat.le_of_ble_eq_true rfl, Nat.le_of_ble_eq_true rfl, Nat.le_of_ble_eq_true rfl, Nat.le_of_ble_eq_true rfl, Nat.le_of_ble_eq_true rfl⟩ (fun n9 h9 q1 q2 => ⟨rfl, q1, q2⟩)
