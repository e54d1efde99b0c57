/-- a throw is under way at pc: the object is some cell of class E -/
def XX (Γ : GX) (k sl pc : Nat) (ls : List (Nat × Value)) (st : List Value) (E : String) (n : Nat) (h : MH) : Prop :=
  ∀ (p : Program) (e : Env) (s : State) (m : MethodId) (args : Array Value) (below : List Frame) (meth : Method) (c : Code) (H : Heap) (locs : List Loc) (lsr : Array Slot),
    Cx Γ.1 Γ.2.1 p s m args meth c → va_S (kA Γ.1) s.heap H locs → RelH Γ.1 n h H → lv_has lsr (mmax Γ.2.1) ls → ∀ (q : Addr) (ce : Cell), H[q]? = some ce → ce.vm = .none → s.vm.findClass E = some ce.cls →
    vx_W p (kl Γ.1) e { frames := mfr Γ.2.1, cells := Γ.2.2.1, slots := Γ.2.2.2.1, locals := mlo Γ.2.1 } s m args below meth c H locs k sl (vx_MQ below (QcM Γ.1 Γ.2.2.2.2) (XcM Γ.1 Γ.2.2.2.2) args s Γ.2.2.1 Γ.2.2.2.1 (kA Γ.1)) (F0 m pc lsr st) q
section MJ3
variable {Γ : GX} {k sl pc n : Nat} {ls : List (Nat × Value)} {st : List Value} {h : MH} {E : String}
theorem va_S.f {K : KX} {s t : State} {H : Heap} {locs : List Loc} (S : va_S (kA K) s.heap H locs) (ht : t.heap = H) : va_F (kA K) s t := by
  rw [← ht] at S
  exact ⟨S.1, S.2.1⟩
theorem XX.out (hh : mhh Γ.2.1 = []) (hq : Γ.2.2.2.2 (.inr E) n h) (hc : k ≤ Γ.2.2.1) (hs : sl ≤ Γ.2.2.2.1) : XX Γ k sl pc ls st E n h := by
  intro p e s m args below meth c H locs lsr C S R L q ce h1 h2 h3
  refine vx_out ?_ C.2.2.2.2.2.2.1 h1 h2 h3 ?_ S.2.2 hc hs
  · intro x hx
    rw [C.2.2.2.2.2.2.2.2.1, hh] at hx
    cases hx
  · intro t ht _
    exact ⟨n, h, hq, by rw [ht]; exact R, S.f ht⟩
theorem XX.catch (pre : List (Nat × Nat × Nat × Nat)) (x : Nat × Nat × Nat × Nat) (suf : List (Nat × Nat × Nat × Nat)) (name : String) (hh : mhh Γ.2.1 = pre ++ x :: suf)
    (hpass : ∀ z ∈ pre, covers ⟨z.1, z.2.1, z.2.2.1, z.2.2.2⟩ pc = false ∨ (z.2.2.2 ≠ 0 ∧ ∃ nm : String, Cond.classLink (my Γ.2.1).cls z.2.2.2 nm ∈ TG ∧ (E, nm) ∈ ncK)) (hx : covers ⟨x.1, x.2.1, x.2.2.1, x.2.2.2⟩ pc = true) (h0 : x.2.2.2 ≠ 0)
    (hlink : Cond.classLink (my Γ.2.1).cls x.2.2.2 name ∈ TG) (hcast : Cond.castable E name ∈ TN) (g : ∀ q : Nat, GG Γ k sl x.2.2.1 ls [.ref q] n h) : XX Γ k sl pc ls st E n h := by
  intro p e s m args below meth c H locs lsr C S R L q ce h1 h2 h3
  have hSt := C.2.2.2.2.2.2.2.2.2.2
  have hts : ∀ w ∈ TG, w.before args s = true := C.2.2.2.2.2.1
  refine vx_catch C.2.2.2.2.1 (pre.map fun q => ⟨q.1, q.2.1, q.2.2.1, q.2.2.2⟩) ⟨x.1, x.2.1, x.2.2.1, x.2.2.2⟩ (suf.map fun q => ⟨q.1, q.2.1, q.2.2.1, q.2.2.2⟩) ?_ ?_ hx h0 (hts _ hlink) (va_Nw.use rfl (hSt.2.1 _ hcast)) h1 h2 h3 (g q p e s m args below meth c H locs lsr C S R L)
  · rw [C.2.2.2.2.2.2.2.2.1, hh]
    simp [tableOf]
  · intro z hz
    obtain ⟨y, hy, rfl⟩ := List.mem_map.mp hz
    rcases hpass y hy with h | ⟨h4, nm, h5, h6⟩
    · exact Or.inl h
    · exact Or.inr ⟨h4, nm, hts _ h5, hSt.2.2.2.1 _ h6⟩
theorem tg_good {M : MI} (hd : headW M ∈ TG) : GoodIn TG (wsM M) := by
  intro w hw
  have hw' : w ∈ TG := (List.mem_cons.mp hw).elim (fun e => e ▸ hd) id
  exact ⟨hw', good_of_word (List.mem_filter.mp hw').2⟩
theorem headW_code {M : MI} (h : mhh M = []) : headW M = .code (my M) (mcode M) (mmax M) (mret M) := by unfold headW; rw [h]
/-- what a call site's words say of the callee, but for the link itself -/
def CW (M' : MI) (na : Nat) : Prop := headW M' ∈ TG ∧ Cond.initialized (my M').cls ∈ TG ∧ ((my M').cls ≠ "java/lang/invoke/MethodHandle" ∧ (my M').cls ≠ "java/lang/invoke/VarHandle") ∧ (parseMethodDescriptor (my M').desc).map (fun d => d.parameters.length) = some na
def CVw (M' : MI) (na : Nat) : Prop := CW M' na ∧ Cond.instanceMethod (my M') ∈ TG ∧ Cond.selects (my M').cls (my M') (my M') ∈ TG
def CSw (M' : MI) (na : Nat) : Prop := CW M' na ∧ Cond.static (my M') ∈ TG
def CIw (M' : MI) (na : Nat) : Prop := CW M' na ∧ Cond.instanceMethod (my M') ∈ TG ∧ (my M').name = "<init>" ∧ mret M' = none
def LK (own : String) (i : Nat) (y : MethodName) : Prop := Cond.methodLink own i y ∈ TG ∨ ∃ host, Cond.methodLinkNest own i y host ∈ TN
abbrev PcM (K : KX) (av : List Value) (n : Nat) (h : MH) : Array Value → State → Prop := va_Pc av (fun U => RelH K n h U.heap ∧ va_K (kD K) vwCl (ktys K) U ∧ Stat K U U.heap)
theorem pc_blind {K : KX} {av : List Value} {n : Nat} {h : MH} : FrameBlind (PcM K av n h) := by
  intro a U g mk q
  obtain ⟨q0, q1, q2, q3⟩ := q
  refine ⟨q0, q1, va_K.moved (u := U) (U := U.calling g mk a) (Vm.Alike.refl U.vm) q2, ?_⟩
  have e1 : (U.calling g mk a).heap = U.heap := rfl
  exact Stat.go (s := U) (U := U.calling g mk a) (State.WarmedH.refl U) (fun b _ _ => by rw [e1]) q3
theorem mj_back {K : KX} {M' : MI} {av : List Value} {mc' ms' na : Nat} {Q' : RQ} {R : Room} {p : Program} {e : Env} {below : List Frame} {s : State} {args : Array Value} (hcon : Con K M' av mc' ms' n h Q') (hts : ∀ w ∈ TG, w.before args s = true) (cw : CW M' na) (hfr : mfr M' + 1 ≤ R.frames) (hlo : 8 + (mmax M' + 11) + mlo M' ≤ R.locals) :
    vx_Back (kl K) R p e below s args (my M') 3 8 (PreOf R mc' ms' (PcM K av n h)) (PostOf (QcM K Q') mc' ms' (kA K)) (vx_Post (XcM K Q') mc' ms' (kA K)) := by
  have hG := tg_good cw.1
  have hini : ∀ (a' : Array Value) (U : State), s.WarmedH U.vm → (Cond.initialized (my M').cls).before a' U = true := fun a' U hW => word_at hW (Or.inl (by first | rfl | simp [Cond.onTables, Cond.keeps, Cond.steady])) (hts _ cw.2.1)
  cases hh : mhh M' with
  | nil => exact vx_back (bytes := mcode M') (maxL := mmax M') (ret := mret M') hcon pc_blind rfl rfl hfr hlo (pay_in hts hG) (by unfold wsM headW; rw [hh]; exact List.mem_cons_self) hini
  | cons x l => exact vx_backW (hh := x :: l) (bytes := mcode M') (maxL := mmax M') (ret := mret M') hcon pc_blind rfl rfl hfr hlo (pay_in hts hG) (by unfold wsM headW; rw [hh]; exact List.mem_cons_self) hini
theorem pc_now {K : KX} {av : List Value} {s U : State} {H : Heap} {locs : List Loc} (S : va_S (kA K) s.heap H locs) (R : RelH K n h H) (hK : va_K (kD K) vwCl (ktys K) s) (hSt : Stat K s s.heap) (hU : U.heap = H) (hW : s.WarmedH U.vm) : PcM K av n h av.toArray U :=
  ⟨rfl, by rw [hU]; exact R, va_K.moved hW.alike hK, Stat.go hW (fun a h1 h2 => by rw [hU]; exact S.2.1 a h1 h2) hSt⟩
theorem mj_callV {i : Nat} {M' : MI} {b ci : Nat} {r : vw_C} {fs As rest : List Value} {mc' ms' : Nat} {Q' : RQ} (hd : decode (mcode Γ.2.1) pc = .ok (.invokevirtual i, 3)) (cw : CVw M' As.length) (hb : h b = some (cO ci fs)) (hcl : vwCl[ci]? = some r) (hrc : r.1 = (my M').cls) (hnt : mhh M' = []) (hlk : LK (my Γ.2.1).cls i (my M')) (hcon : Con Γ.1 M' (.ref b :: As) mc' ms' n h Q') (hst : st = As.reverse ++ .ref b :: rest) (hcat : (rest.map fun v => v.category).sum ≤ 8) (hfr : mfr M' + 1 ≤ mfr Γ.2.1) (hlo : 8 + (mmax M' + 11) + mlo M' ≤ mlo Γ.2.1) (hmc : k + mc' ≤ Γ.2.2.1) (hms : sl + ms' ≤ Γ.2.2.2.1)
    (gr : ∀ v n' h', Q' (.inl v) n' h' → GG Γ (k + mc') (sl + ms') (pc + 3) ls (v.toList ++ rest) n' h') (gx : ∀ E n' h', Q' (.inr E) n' h' → XX Γ (k + mc') (sl + ms') pc ls rest E n' h') : GG Γ k sl pc ls st n h := by
  intro p e s m args below meth c H locs lsr C S R L
  subst hst
  have hts : ∀ w ∈ TG, w.before args s = true := C.2.2.2.2.2.1
  have hK : va_K (kD Γ.1) vwCl (ktys Γ.1) s := C.2.2.2.2.2.2.2.2.2.1
  have hSt := C.2.2.2.2.2.2.2.2.2.2
  have hB := mj_back (R := { frames := mfr Γ.2.1, cells := Γ.2.2.1, slots := Γ.2.2.2.1, locals := mlo Γ.2.1 }) (p := p) (e := e) (below := below) hcon hts cw.1 hfr hlo
  obtain ⟨cw, hcwx⟩ := cw
  have hlen : ∀ sig, parseMethodDescriptor (my M').desc = some sig → As.length = sig.parameters.length := fun sig h => by
    have h2 := cw.2.2.2
    rw [h] at h2
    exact (Option.some.inj h2).symm
  have hy := cw.2.2.1
  obtain ⟨hinst, hsel⟩ := hcwx
  obtain ⟨mk, methM, hnamed, hmethM, hstM, habM⟩ := Cond.instanceMethod_spec (hts _ hinst)
  have hcode := hts _ cw.1
  rw [headW_code hnt] at hcode
  obtain ⟨methM', cM, hmethM', -, -, -, -, -, -, hsigM⟩ := Cond.code_spec hnamed hcode
  cases hmethM.symm.trans hmethM'
  obtain ⟨c2, r2, m2, q1, q2, q3, q4, kP, hkP, hkPi⟩ := Cond.selects_spec (hts _ hsel)
  obtain ⟨cellB, hcB, hoB, hclB⟩ := va_recv hK (R.at hb) (ci := ci) (q0 := 0) hcl rfl
  rw [hrc] at hclB
  cases hclB.symm.trans q1
  cases (State.methodFound?_of_named hnamed hy).symm.trans q2
  cases hnamed.symm.trans q3
  intro T hT X
  have hselP : selectMethod e.platform s.vm cellB.cls mk = .method mk := by rw [Launch.admits_selectMethod X.admits]; exact q4
  rcases hlk with hlk | ⟨host, hlk⟩
  · obtain ⟨vm₁, X₁, hstep₁⟩ := X.invokevirtual C.1 (own := (my Γ.2.1).cls) C.2.2.2.2.1 (hts _ hlk) hnamed hmethM hstM hkP hkPi hy (a := b) (cell := cellB) (by rw [hT]; exact hcB)
      (fun z h => by rw [h] at hoB; cases hoB) hselP hmethM habM hkP hkPi (g := F0 m pc lsr (As.reverse ++ .ref b :: rest)) rfl (argsL := As) (rest := rest) (hlen _ hsigM) rfl (by rw [C.2.1]; exact hd)
    rcases hB m meth c ⟨T.setVm vm₁, locs, k, sl⟩ (F0 m pc lsr rest) (.invokevirtual i) mk (Value.ref b :: As).toArray X₁ rfl (L.1.trans C.2.2.2.1.symm) (by rw [C.2.1]; exact hd) (lv_room (ls := lsr) (pc := pc) (m := m) hcat) (X₁.named hnamed) ⟨hmc, hms, pc_now S R hK hSt hT X₁.warmed⟩ with ⟨v, ⟨U', l2, c2, s2⟩, X', ⟨g', mk', t, L9, e1, e2, hq, h1, hL, h2, h3⟩, hsteps⟩ | ⟨q, ⟨U', l2, c2, s2⟩, X', ⟨g', mk', t, L9, E, ce, e1, e2, hq, hce, hcv, hcl, h1, hL, h2, h3⟩, hsteps⟩
    · dsimp only [Pt.U, Pt.locs, Pt.cells, Pt.slots] at X' e1 e2 h1 h2 h3 hsteps
      subst h1; subst h2; subst h3
      obtain ⟨v', n', h', hv, hQ, hR', hF⟩ := hq
      cases hv
      obtain ⟨-, -, S'⟩ := vx_keep (st₀ := (T.setVm vm₁).calling g' mk' _) (H := H) (T' := U') (t := t) hT e1 S (fun q _ z => z) (fun q z => z) hL hF
      obtain ⟨t2, a1, b1⟩ := gr v n' h' hQ p e s m args below meth c U'.heap _ lsr C S' (by rw [e1]; exact hR') L U' rfl X'
      exact ⟨t2, (hstep₁ _ fun acts => by rw [doInvoke_state]; exact hsteps.trans a1), b1⟩
    · dsimp only [Pt.U, Pt.locs, Pt.cells, Pt.slots] at X' e1 e2 h1 h2 h3 hsteps hcl
      subst h1; subst h2; subst h3
      obtain ⟨n', h', hQ, hR', hF⟩ := hq
      obtain ⟨-, -, S'⟩ := vx_keep (st₀ := (T.setVm vm₁).calling g' mk' _) (H := H) (T' := U') (t := t) hT e1 S (fun q _ z => z) (fun q z => z) hL hF
      obtain ⟨t2, a1, b1⟩ := gx E n' h' hQ p e s m args below meth c U'.heap _ lsr C S' (by rw [e1]; exact hR') L q ce (by rw [e1]; exact hce) hcv (vx_cls X₁.warmed hcl) U' rfl X'
      exact ⟨t2, (hstep₁ _ fun acts => by rw [doInvoke_state]; exact hsteps.trans a1), b1⟩
  · obtain ⟨vm₁, X₁, hstep₁⟩ := X.invokevirtualNest C.1 (own := (my Γ.2.1).cls) C.2.2.2.2.1 (va_Nw.use rfl (hSt.2.1 _ hlk)) hnamed hmethM hstM hkP hkPi hy (a := b) (cell := cellB) (by rw [hT]; exact hcB)
      (fun z h => by rw [h] at hoB; cases hoB) hselP hmethM habM hkP hkPi (g := F0 m pc lsr (As.reverse ++ .ref b :: rest)) rfl (argsL := As) (rest := rest) (hlen _ hsigM) rfl (by rw [C.2.1]; exact hd)
    rcases hB m meth c ⟨T.setVm vm₁, locs, k, sl⟩ (F0 m pc lsr rest) (.invokevirtual i) mk (Value.ref b :: As).toArray X₁ rfl (L.1.trans C.2.2.2.1.symm) (by rw [C.2.1]; exact hd) (lv_room (ls := lsr) (pc := pc) (m := m) hcat) (X₁.named hnamed) ⟨hmc, hms, pc_now S R hK hSt hT X₁.warmed⟩ with ⟨v, ⟨U', l2, c2, s2⟩, X', ⟨g', mk', t, L9, e1, e2, hq, h1, hL, h2, h3⟩, hsteps⟩ | ⟨q, ⟨U', l2, c2, s2⟩, X', ⟨g', mk', t, L9, E, ce, e1, e2, hq, hce, hcv, hcl, h1, hL, h2, h3⟩, hsteps⟩
    · dsimp only [Pt.U, Pt.locs, Pt.cells, Pt.slots] at X' e1 e2 h1 h2 h3 hsteps
      subst h1; subst h2; subst h3
      obtain ⟨v', n', h', hv, hQ, hR', hF⟩ := hq
      cases hv
      obtain ⟨-, -, S'⟩ := vx_keep (st₀ := (T.setVm vm₁).calling g' mk' _) (H := H) (T' := U') (t := t) hT e1 S (fun q _ z => z) (fun q z => z) hL hF
      obtain ⟨t2, a1, b1⟩ := gr v n' h' hQ p e s m args below meth c U'.heap _ lsr C S' (by rw [e1]; exact hR') L U' rfl X'
      exact ⟨t2, (hstep₁ _ fun acts => by rw [doInvoke_state]; exact hsteps.trans a1), b1⟩
    · dsimp only [Pt.U, Pt.locs, Pt.cells, Pt.slots] at X' e1 e2 h1 h2 h3 hsteps hcl
      subst h1; subst h2; subst h3
      obtain ⟨n', h', hQ, hR', hF⟩ := hq
      obtain ⟨-, -, S'⟩ := vx_keep (st₀ := (T.setVm vm₁).calling g' mk' _) (H := H) (T' := U') (t := t) hT e1 S (fun q _ z => z) (fun q z => z) hL hF
      obtain ⟨t2, a1, b1⟩ := gx E n' h' hQ p e s m args below meth c U'.heap _ lsr C S' (by rw [e1]; exact hR') L q ce (by rw [e1]; exact hce) hcv (vx_cls X₁.warmed hcl) U' rfl X'
      exact ⟨t2, (hstep₁ _ fun acts => by rw [doInvoke_state]; exact hsteps.trans a1), b1⟩
theorem mj_callS {i : Nat} {M' : MI} {As rest : List Value} {mc' ms' : Nat} {Q' : RQ} (hd : decode (mcode Γ.2.1) pc = .ok (.invokestatic i, 3)) (cw : CSw M' As.length) (hlk : LK (my Γ.2.1).cls i (my M')) (hcon : Con Γ.1 M' As mc' ms' n h Q') (hst : st = As.reverse ++ rest) (hcat : (rest.map fun v => v.category).sum ≤ 8) (hfr : mfr M' + 1 ≤ mfr Γ.2.1) (hlo : 8 + (mmax M' + 11) + mlo M' ≤ mlo Γ.2.1) (hmc : k + mc' ≤ Γ.2.2.1) (hms : sl + ms' ≤ Γ.2.2.2.1)
    (gr : ∀ v n' h', Q' (.inl v) n' h' → GG Γ (k + mc') (sl + ms') (pc + 3) ls (v.toList ++ rest) n' h') (gx : ∀ E n' h', Q' (.inr E) n' h' → XX Γ (k + mc') (sl + ms') pc ls rest E n' h') : GG Γ k sl pc ls st n h := by
  intro p e s m args below meth c H locs lsr C S R L
  subst hst
  have hts : ∀ w ∈ TG, w.before args s = true := C.2.2.2.2.2.1
  have hK : va_K (kD Γ.1) vwCl (ktys Γ.1) s := C.2.2.2.2.2.2.2.2.2.1
  have hSt := C.2.2.2.2.2.2.2.2.2.2
  have hB := mj_back (R := { frames := mfr Γ.2.1, cells := Γ.2.2.1, slots := Γ.2.2.2.1, locals := mlo Γ.2.1 }) (p := p) (e := e) (below := below) hcon hts cw.1 hfr hlo
  obtain ⟨cw, hcwx⟩ := cw
  have hlen : ∀ sig, parseMethodDescriptor (my M').desc = some sig → As.length = sig.parameters.length := fun sig h => by
    have h2 := cw.2.2.2
    rw [h] at h2
    exact (Option.some.inj h2).symm
  have hy := cw.2.2.1
  have hnm : ∃ (mk : MethodId) (methM : Method), s.methodNamed? (my M') = some mk ∧ s.vm.method? mk = some methM ∧ parseMethodDescriptor (my M').desc = some methM.sig := by
    have hcode := hts _ cw.1
    unfold headW at hcode
    split at hcode
    · obtain ⟨mk, hnamed⟩ := Cond.code_named hcode
      obtain ⟨methM, cM, hmethM, -, -, -, -, -, -, hsigM⟩ := Cond.code_spec hnamed hcode
      exact ⟨mk, methM, hnamed, hmethM, hsigM⟩
    · obtain ⟨mk, methM, cM, hnamed, hmethM, -, -, -, -, -, -, hsigM⟩ := Cond.codeWith_spec hcode
      exact ⟨mk, methM, hnamed, hmethM, hsigM⟩
  obtain ⟨mk, methM, hnamed, hmethM, hsigM⟩ := hnm
  have hstatic : methM.isStatic = true := Cond.static_spec hnamed hmethM (hts _ hcwx)
  obtain ⟨kP, hkP, -⟩ := className_of_methodNamed hnamed
  have hinitP : kP.init = .initialized := Cond.initialized_spec (findClass_of_methodNamed hnamed) hkP (hts _ cw.2.1)
  intro T hT X
  rcases hlk with hlk | ⟨host, hlk⟩
  · obtain ⟨vm₁, X₁, hstep₁⟩ := X.invokestatic C.1 (own := (my Γ.2.1).cls) C.2.2.2.2.1 (hts _ hlk) hnamed hmethM hstatic hkP hinitP hy (g := F0 m pc lsr (As.reverse ++ rest)) rfl (argsL := As) (rest := rest) (hlen _ hsigM) rfl (by rw [C.2.1]; exact hd)
    rcases hB m meth c ⟨T.setVm vm₁, locs, k, sl⟩ (F0 m pc lsr rest) (.invokestatic i) mk As.toArray X₁ rfl (L.1.trans C.2.2.2.1.symm) (by rw [C.2.1]; exact hd) (lv_room (ls := lsr) (pc := pc) (m := m) hcat) (X₁.named hnamed) ⟨hmc, hms, pc_now S R hK hSt hT X₁.warmed⟩ with ⟨v, ⟨U', l2, c2, s2⟩, X', ⟨g', mk', t, L9, e1, e2, hq, h1, hL, h2, h3⟩, hsteps⟩ | ⟨q, ⟨U', l2, c2, s2⟩, X', ⟨g', mk', t, L9, E, ce, e1, e2, hq, hce, hcv, hcl, h1, hL, h2, h3⟩, hsteps⟩
    · dsimp only [Pt.U, Pt.locs, Pt.cells, Pt.slots] at X' e1 e2 h1 h2 h3 hsteps
      subst h1; subst h2; subst h3
      obtain ⟨v', n', h', hv, hQ, hR', hF⟩ := hq
      cases hv
      obtain ⟨-, -, S'⟩ := vx_keep (st₀ := (T.setVm vm₁).calling g' mk' _) (H := H) (T' := U') (t := t) hT e1 S (fun q _ z => z) (fun q z => z) hL hF
      obtain ⟨t2, a1, b1⟩ := gr v n' h' hQ p e s m args below meth c U'.heap _ lsr C S' (by rw [e1]; exact hR') L U' rfl X'
      exact ⟨t2, (hstep₁ _ fun acts => by rw [doInvoke_state]; exact hsteps.trans a1), b1⟩
    · dsimp only [Pt.U, Pt.locs, Pt.cells, Pt.slots] at X' e1 e2 h1 h2 h3 hsteps hcl
      subst h1; subst h2; subst h3
      obtain ⟨n', h', hQ, hR', hF⟩ := hq
      obtain ⟨-, -, S'⟩ := vx_keep (st₀ := (T.setVm vm₁).calling g' mk' _) (H := H) (T' := U') (t := t) hT e1 S (fun q _ z => z) (fun q z => z) hL hF
      obtain ⟨t2, a1, b1⟩ := gx E n' h' hQ p e s m args below meth c U'.heap _ lsr C S' (by rw [e1]; exact hR') L q ce (by rw [e1]; exact hce) hcv (vx_cls X₁.warmed hcl) U' rfl X'
      exact ⟨t2, (hstep₁ _ fun acts => by rw [doInvoke_state]; exact hsteps.trans a1), b1⟩
  · obtain ⟨vm₁, X₁, hstep₁⟩ := X.invokestaticNest C.1 (own := (my Γ.2.1).cls) C.2.2.2.2.1 (va_Nw.use rfl (hSt.2.1 _ hlk)) hnamed hmethM hstatic hkP hinitP hy (g := F0 m pc lsr (As.reverse ++ rest)) rfl (argsL := As) (rest := rest) (hlen _ hsigM) rfl (by rw [C.2.1]; exact hd)
    rcases hB m meth c ⟨T.setVm vm₁, locs, k, sl⟩ (F0 m pc lsr rest) (.invokestatic i) mk As.toArray X₁ rfl (L.1.trans C.2.2.2.1.symm) (by rw [C.2.1]; exact hd) (lv_room (ls := lsr) (pc := pc) (m := m) hcat) (X₁.named hnamed) ⟨hmc, hms, pc_now S R hK hSt hT X₁.warmed⟩ with ⟨v, ⟨U', l2, c2, s2⟩, X', ⟨g', mk', t, L9, e1, e2, hq, h1, hL, h2, h3⟩, hsteps⟩ | ⟨q, ⟨U', l2, c2, s2⟩, X', ⟨g', mk', t, L9, E, ce, e1, e2, hq, hce, hcv, hcl, h1, hL, h2, h3⟩, hsteps⟩
    · dsimp only [Pt.U, Pt.locs, Pt.cells, Pt.slots] at X' e1 e2 h1 h2 h3 hsteps
      subst h1; subst h2; subst h3
      obtain ⟨v', n', h', hv, hQ, hR', hF⟩ := hq
      cases hv
      obtain ⟨-, -, S'⟩ := vx_keep (st₀ := (T.setVm vm₁).calling g' mk' _) (H := H) (T' := U') (t := t) hT e1 S (fun q _ z => z) (fun q z => z) hL hF
      obtain ⟨t2, a1, b1⟩ := gr v n' h' hQ p e s m args below meth c U'.heap _ lsr C S' (by rw [e1]; exact hR') L U' rfl X'
      exact ⟨t2, (hstep₁ _ fun acts => by rw [doInvoke_state]; exact hsteps.trans a1), b1⟩
    · dsimp only [Pt.U, Pt.locs, Pt.cells, Pt.slots] at X' e1 e2 h1 h2 h3 hsteps hcl
      subst h1; subst h2; subst h3
      obtain ⟨n', h', hQ, hR', hF⟩ := hq
      obtain ⟨-, -, S'⟩ := vx_keep (st₀ := (T.setVm vm₁).calling g' mk' _) (H := H) (T' := U') (t := t) hT e1 S (fun q _ z => z) (fun q z => z) hL hF
      obtain ⟨t2, a1, b1⟩ := gx E n' h' hQ p e s m args below meth c U'.heap _ lsr C S' (by rw [e1]; exact hR') L q ce (by rw [e1]; exact hce) hcv (vx_cls X₁.warmed hcl) U' rfl X'
      exact ⟨t2, (hstep₁ _ fun acts => by rw [doInvoke_state]; exact hsteps.trans a1), b1⟩
theorem mj_callI {i : Nat} {M' : MI} {b : Nat} {As rest : List Value} {mc' ms' : Nat} {Q' : RQ} (hd : decode (mcode Γ.2.1) pc = .ok (.invokespecial i, 3)) (cw : CIw M' As.length) (hnt : mhh M' = []) (hlk : LK (my Γ.2.1).cls i (my M')) (hcon : Con Γ.1 M' (.ref b :: As) mc' ms' n h Q') (hst : st = As.reverse ++ .ref b :: rest) (hcat : (rest.map fun v => v.category).sum ≤ 8) (hfr : mfr M' + 1 ≤ mfr Γ.2.1) (hlo : 8 + (mmax M' + 11) + mlo M' ≤ mlo Γ.2.1) (hmc : k + mc' ≤ Γ.2.2.1) (hms : sl + ms' ≤ Γ.2.2.2.1)
    (gr : ∀ v n' h', Q' (.inl v) n' h' → GG Γ (k + mc') (sl + ms') (pc + 3) ls (v.toList ++ rest) n' h') (gx : ∀ E n' h', Q' (.inr E) n' h' → XX Γ (k + mc') (sl + ms') pc ls rest E n' h') : GG Γ k sl pc ls st n h := by
  intro p e s m args below meth c H locs lsr C S R L
  subst hst
  have hts : ∀ w ∈ TG, w.before args s = true := C.2.2.2.2.2.1
  have hK : va_K (kD Γ.1) vwCl (ktys Γ.1) s := C.2.2.2.2.2.2.2.2.2.1
  have hSt := C.2.2.2.2.2.2.2.2.2.2
  have hB := mj_back (R := { frames := mfr Γ.2.1, cells := Γ.2.2.1, slots := Γ.2.2.2.1, locals := mlo Γ.2.1 }) (p := p) (e := e) (below := below) hcon hts cw.1 hfr hlo
  obtain ⟨cw, hcwx⟩ := cw
  have hlen : ∀ sig, parseMethodDescriptor (my M').desc = some sig → As.length = sig.parameters.length := fun sig h => by
    have h2 := cw.2.2.2
    rw [h] at h2
    exact (Option.some.inj h2).symm
  have hy := cw.2.2.1
  obtain ⟨hinst, hy1, hrn⟩ := hcwx
  have hcode := hts _ cw.1
  rw [headW_code hnt, hrn] at hcode
  intro T hT X
  have hpl : e.platform.magicAccessors = ({} : Platform).magicAccessors := by rw [X.admits.platform]
  rcases hlk with hlk | ⟨host, hlk⟩
  · obtain ⟨mk, methM, cM, kP, vm₁, hnamed, hmethM, hcodeM, -, hlocalsM, -, hkP, -, hW₁, hstep₁⟩ := Steps.initColdArgs (e := e) X.here C.1 X.warmed hpl C.2.2.2.2.1 hy1 hy (hts _ hlk) (hts _ hinst) hcode (f := F0 m pc lsr (As.reverse ++ .ref b :: rest)) (a := b) (argsL := As) (rest := rest) rfl hlen rfl (by rw [C.2.1]; exact hd)
    have X₁ := X.noted hW₁
    rcases hB m meth c ⟨T.setVm vm₁, locs, k, sl⟩ (F0 m pc lsr rest) (.invokespecial i) mk (Value.ref b :: As).toArray X₁ rfl (L.1.trans C.2.2.2.1.symm) (by rw [C.2.1]; exact hd) (lv_room (ls := lsr) (pc := pc) (m := m) hcat) (X₁.named hnamed) ⟨hmc, hms, pc_now S R hK hSt hT X₁.warmed⟩ with ⟨v, ⟨U', l2, c2, s2⟩, X', ⟨g', mk', t, L9, e1, e2, hq, h1, hL, h2, h3⟩, hsteps⟩ | ⟨q, ⟨U', l2, c2, s2⟩, X', ⟨g', mk', t, L9, E, ce, e1, e2, hq, hce, hcv, hcl, h1, hL, h2, h3⟩, hsteps⟩
    · dsimp only [Pt.U, Pt.locs, Pt.cells, Pt.slots] at X' e1 e2 h1 h2 h3 hsteps
      subst h1; subst h2; subst h3
      obtain ⟨v', n', h', hv, hQ, hR', hF⟩ := hq
      cases hv
      obtain ⟨-, -, S'⟩ := vx_keep (st₀ := (T.setVm vm₁).calling g' mk' _) (H := H) (T' := U') (t := t) hT e1 S (fun q _ z => z) (fun q z => z) hL hF
      obtain ⟨t2, a1, b1⟩ := gr v n' h' hQ p e s m args below meth c U'.heap _ lsr C S' (by rw [e1]; exact hR') L U' rfl X'
      exact ⟨t2, (hstep₁ _ fun acts => by rw [doInvoke_state]; exact hsteps.trans a1), b1⟩
    · dsimp only [Pt.U, Pt.locs, Pt.cells, Pt.slots] at X' e1 e2 h1 h2 h3 hsteps hcl
      subst h1; subst h2; subst h3
      obtain ⟨n', h', hQ, hR', hF⟩ := hq
      obtain ⟨-, -, S'⟩ := vx_keep (st₀ := (T.setVm vm₁).calling g' mk' _) (H := H) (T' := U') (t := t) hT e1 S (fun q _ z => z) (fun q z => z) hL hF
      obtain ⟨t2, a1, b1⟩ := gx E n' h' hQ p e s m args below meth c U'.heap _ lsr C S' (by rw [e1]; exact hR') L q ce (by rw [e1]; exact hce) hcv (vx_cls X₁.warmed hcl) U' rfl X'
      exact ⟨t2, (hstep₁ _ fun acts => by rw [doInvoke_state]; exact hsteps.trans a1), b1⟩
  · obtain ⟨mk, methM, cM, kP, vm₁, hnamed, hmethM, hcodeM, -, hlocalsM, -, hkP, -, hW₁, hstep₁⟩ := Steps.initColdArgsNest (e := e) X.here C.1 X.warmed hpl C.2.2.2.2.1 hy1 hy (va_Nw.use rfl (hSt.2.1 _ hlk)) (hts _ hinst) hcode (f := F0 m pc lsr (As.reverse ++ .ref b :: rest)) (a := b) (argsL := As) (rest := rest) rfl hlen rfl (by rw [C.2.1]; exact hd)
    have X₁ := X.noted hW₁
    rcases hB m meth c ⟨T.setVm vm₁, locs, k, sl⟩ (F0 m pc lsr rest) (.invokespecial i) mk (Value.ref b :: As).toArray X₁ rfl (L.1.trans C.2.2.2.1.symm) (by rw [C.2.1]; exact hd) (lv_room (ls := lsr) (pc := pc) (m := m) hcat) (X₁.named hnamed) ⟨hmc, hms, pc_now S R hK hSt hT X₁.warmed⟩ with ⟨v, ⟨U', l2, c2, s2⟩, X', ⟨g', mk', t, L9, e1, e2, hq, h1, hL, h2, h3⟩, hsteps⟩ | ⟨q, ⟨U', l2, c2, s2⟩, X', ⟨g', mk', t, L9, E, ce, e1, e2, hq, hce, hcv, hcl, h1, hL, h2, h3⟩, hsteps⟩
    · dsimp only [Pt.U, Pt.locs, Pt.cells, Pt.slots] at X' e1 e2 h1 h2 h3 hsteps
      subst h1; subst h2; subst h3
      obtain ⟨v', n', h', hv, hQ, hR', hF⟩ := hq
      cases hv
      obtain ⟨-, -, S'⟩ := vx_keep (st₀ := (T.setVm vm₁).calling g' mk' _) (H := H) (T' := U') (t := t) hT e1 S (fun q _ z => z) (fun q z => z) hL hF
      obtain ⟨t2, a1, b1⟩ := gr v n' h' hQ p e s m args below meth c U'.heap _ lsr C S' (by rw [e1]; exact hR') L U' rfl X'
      exact ⟨t2, (hstep₁ _ fun acts => by rw [doInvoke_state]; exact hsteps.trans a1), b1⟩
    · dsimp only [Pt.U, Pt.locs, Pt.cells, Pt.slots] at X' e1 e2 h1 h2 h3 hsteps hcl
      subst h1; subst h2; subst h3
      obtain ⟨n', h', hQ, hR', hF⟩ := hq
      obtain ⟨-, -, S'⟩ := vx_keep (st₀ := (T.setVm vm₁).calling g' mk' _) (H := H) (T' := U') (t := t) hT e1 S (fun q _ z => z) (fun q z => z) hL hF
      obtain ⟨t2, a1, b1⟩ := gx E n' h' hQ p e s m args below meth c U'.heap _ lsr C S' (by rw [e1]; exact hR') L q ce (by rw [e1]; exact hce) hcv (vx_cls X₁.warmed hcl) U' rfl X'
      exact ⟨t2, (hstep₁ _ fun acts => by rw [doInvoke_state]; exact hsteps.trans a1), b1⟩
-- the ends
theorem mj_iret {v : Int32} (hd : decode (mcode Γ.2.1) pc = .ok (.ireturn, 1)) (hr : mret Γ.2.1 = some .int) (hc : k ≤ Γ.2.2.1) (hs : sl ≤ Γ.2.2.2.1) (hq : Γ.2.2.2.2 (.inl (some (.int v))) n h) : GG Γ k sl pc ls [.int v] n h := by
  intro p e s m args below meth c H locs lsr C S R L
  have hlocks := C.2.2.2.2.2.2.1
  exact W.widen hc hs (vx_ret (W.iret C.1 C.2.1 (C.2.2.1.trans hr) (fun t ht hW => ⟨_, n, h, rfl, hq, by rw [ht]; exact R, S.f ht⟩) S.2.2 hd hlocks))
theorem mj_zret {v : Int32} (hd : decode (mcode Γ.2.1) pc = .ok (.ireturn, 1)) (hr : mret Γ.2.1 = some .boolean) (hn : v = 0 ∨ v = 1) (hc : k ≤ Γ.2.2.1) (hs : sl ≤ Γ.2.2.2.1) (hq : Γ.2.2.2.2 (.inl (some (.int v))) n h) : GG Γ k sl pc ls [.int v] n h := by
  intro p e s m args below meth c H locs lsr C S R L
  have hlocks := C.2.2.2.2.2.2.1
  have hn : narrow .boolean (.int v) = .int v := by rcases hn with rfl | rfl <;> rfl
  exact W.widen hc hs (vx_ret (W.zret C.1 C.2.1 (C.2.2.1.trans hr) hn (fun t ht hW => ⟨_, n, h, rfl, hq, by rw [ht]; exact R, S.f ht⟩) S.2.2 hd hlocks))
theorem mj_lret {v : Int64} (hd : decode (mcode Γ.2.1) pc = .ok (.lreturn, 1)) (hr : mret Γ.2.1 = some .long) (hc : k ≤ Γ.2.2.1) (hs : sl ≤ Γ.2.2.2.1) (hq : Γ.2.2.2.2 (.inl (some (.long v))) n h) : GG Γ k sl pc ls [.long v] n h := by
  intro p e s m args below meth c H locs lsr C S R L
  have hlocks := C.2.2.2.2.2.2.1
  exact W.widen hc hs (vx_ret (W.lret C.1 C.2.1 (C.2.2.1.trans hr) (fun t ht hW => ⟨_, n, h, rfl, hq, by rw [ht]; exact R, S.f ht⟩) S.2.2 hd hlocks))
theorem mj_aret {v : Value} {rt : String} (hd : decode (mcode Γ.2.1) pc = .ok (.areturn, 1)) (hr : mret Γ.2.1 = some (.object rt)) (hv : v = .null ∨ ∃ a, v = .ref a) (hc : k ≤ Γ.2.2.1) (hs : sl ≤ Γ.2.2.2.1) (hq : Γ.2.2.2.2 (.inl (some v)) n h) : GG Γ k sl pc ls [v] n h := by
  intro p e s m args below meth c H locs lsr C S R L
  have hlocks := C.2.2.2.2.2.2.1
  exact W.widen hc hs (vx_ret (W.aret C.1 C.2.1 (C.2.2.1.trans hr) (Or.inl ⟨rt, rfl⟩) hv (fun t ht hW => ⟨_, n, h, rfl, hq, by rw [ht]; exact R, S.f ht⟩) S.2.2 hd hlocks))
theorem mj_vret (hd : decode (mcode Γ.2.1) pc = .ok (.return_, 1)) (hr : mret Γ.2.1 = none) (hc : k ≤ Γ.2.2.1) (hs : sl ≤ Γ.2.2.2.1) (hq : Γ.2.2.2.2 (.inl none) n h) : GG Γ k sl pc ls [] n h := by
  intro p e s m args below meth c H locs lsr C S R L
  have hlocks := C.2.2.2.2.2.2.1
  exact W.widen hc hs (vx_ret (W.vret C.1 C.2.1 (C.2.2.1.trans hr) (fun t ht hW => ⟨_, n, h, rfl, hq, by rw [ht]; exact R, S.f ht⟩) S.2.2 hd hlocks))
end MJ3
