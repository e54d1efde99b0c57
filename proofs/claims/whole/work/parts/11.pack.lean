/-- it returns v, the heap ends at n', P holds of it -/
def RetP (v : Option Value) (n' : Nat) (P : MH → Prop) : RQ := fun r n9 h9 => r = .inl v ∧ n9 = n' ∧ P h9
/-- it throws E; some cells may have come, none of ours has changed but as P says -/
def ThrP (E : String) (n' : Nat) (P : MH → Prop) : RQ := fun r n9 h9 => r = .inr E ∧ n' ≤ n9 ∧ P h9
abbrev Ret (v : Option Value) (n : Nat) (h : MH) : RQ := RetP v n (fun h9 => h9 = h)
abbrev Thr (E : String) (n : Nat) (h : MH) : RQ := ThrP E n (fun h9 => h9 = h)
def Sd (Γ : GX) (M' : MI) (k sl mc' ms' : Nat) (rest : List Value) : Prop := (rest.map fun v => v.category).sum ≤ 8 ∧ mfr M' + 1 ≤ mfr Γ.2.1 ∧ 8 + (mmax M' + 11) + mlo M' ≤ mlo Γ.2.1 ∧ k + mc' ≤ Γ.2.2.1 ∧ sl + ms' ≤ Γ.2.2.2.1
section MJ6
variable {Γ : GX} {k sl pc n : Nat} {ls : List (Nat × Value)} {st : List Value} {h : MH}
theorem mj_cV1 {i : Nat} {M' : MI} {b ci : Nat} {fs rest : List Value} {mc' ms' n' : Nat} {P : MH → Prop} {v : Value} (As : List Value) (r : vw_C) (hd : decode (mcode Γ.2.1) pc = .ok (.invokevirtual i, 3)) (cw : CVw M' As.length) (hlk : LK (my Γ.2.1).cls i (my M')) (hb : h b = some (cO ci fs)) (hcl : vwCl[ci]? = some r) (hrc : r.1 = (my M').cls) (hnt : mhh M' = []) (hst : st = As.reverse ++ .ref b :: rest) (hcon : Con Γ.1 M' (.ref b :: As) mc' ms' n h (RetP (some v) n' P)) (sd : Sd Γ M' k sl mc' ms' rest) (g : ∀ h', P h' → GG Γ (k + mc') (sl + ms') (pc + 3) ls (v :: rest) n' h') : GG Γ k sl pc ls st n h := by
  refine mj_callV (As := As) (rest := rest) (r := r) hd cw hb hcl hrc hnt hlk hcon hst sd.1 sd.2.1 sd.2.2.1 sd.2.2.2.1 sd.2.2.2.2 (fun v9 n9 h9 q => ?_) (fun E n9 h9 q => ?_)
  · obtain ⟨e, rfl, q⟩ := q
    cases e
    exact g h9 q
  · exact absurd q.1 (fun e => by cases e)
theorem mj_cV0 {i : Nat} {M' : MI} {b ci : Nat} {fs rest : List Value} {mc' ms' n' : Nat} {P : MH → Prop} (As : List Value) (r : vw_C) (hd : decode (mcode Γ.2.1) pc = .ok (.invokevirtual i, 3)) (cw : CVw M' As.length) (hlk : LK (my Γ.2.1).cls i (my M')) (hb : h b = some (cO ci fs)) (hcl : vwCl[ci]? = some r) (hrc : r.1 = (my M').cls) (hnt : mhh M' = []) (hst : st = As.reverse ++ .ref b :: rest) (hcon : Con Γ.1 M' (.ref b :: As) mc' ms' n h (RetP none n' P)) (sd : Sd Γ M' k sl mc' ms' rest) (g : ∀ h', P h' → GG Γ (k + mc') (sl + ms') (pc + 3) ls (rest) n' h') : GG Γ k sl pc ls st n h := by
  refine mj_callV (As := As) (rest := rest) (r := r) hd cw hb hcl hrc hnt hlk hcon hst sd.1 sd.2.1 sd.2.2.1 sd.2.2.2.1 sd.2.2.2.2 (fun v9 n9 h9 q => ?_) (fun E n9 h9 q => ?_)
  · obtain ⟨e, rfl, q⟩ := q
    cases e
    exact g h9 q
  · exact absurd q.1 (fun e => by cases e)
theorem mj_cS1 {i : Nat} {M' : MI} {rest : List Value} {mc' ms' n' : Nat} {P : MH → Prop} {v : Value} (As : List Value) (hd : decode (mcode Γ.2.1) pc = .ok (.invokestatic i, 3)) (cw : CSw M' As.length) (hlk : LK (my Γ.2.1).cls i (my M')) (hst : st = As.reverse ++ rest) (hcon : Con Γ.1 M' As mc' ms' n h (RetP (some v) n' P)) (sd : Sd Γ M' k sl mc' ms' rest) (g : ∀ h', P h' → GG Γ (k + mc') (sl + ms') (pc + 3) ls (v :: rest) n' h') : GG Γ k sl pc ls st n h := by
  refine mj_callS (As := As) (rest := rest) hd cw hlk hcon hst sd.1 sd.2.1 sd.2.2.1 sd.2.2.2.1 sd.2.2.2.2 (fun v9 n9 h9 q => ?_) (fun E n9 h9 q => ?_)
  · obtain ⟨e, rfl, q⟩ := q
    cases e
    exact g h9 q
  · exact absurd q.1 (fun e => by cases e)
theorem mj_cS0 {i : Nat} {M' : MI} {rest : List Value} {mc' ms' n' : Nat} {P : MH → Prop} (As : List Value) (hd : decode (mcode Γ.2.1) pc = .ok (.invokestatic i, 3)) (cw : CSw M' As.length) (hlk : LK (my Γ.2.1).cls i (my M')) (hst : st = As.reverse ++ rest) (hcon : Con Γ.1 M' As mc' ms' n h (RetP none n' P)) (sd : Sd Γ M' k sl mc' ms' rest) (g : ∀ h', P h' → GG Γ (k + mc') (sl + ms') (pc + 3) ls (rest) n' h') : GG Γ k sl pc ls st n h := by
  refine mj_callS (As := As) (rest := rest) hd cw hlk hcon hst sd.1 sd.2.1 sd.2.2.1 sd.2.2.2.1 sd.2.2.2.2 (fun v9 n9 h9 q => ?_) (fun E n9 h9 q => ?_)
  · obtain ⟨e, rfl, q⟩ := q
    cases e
    exact g h9 q
  · exact absurd q.1 (fun e => by cases e)
theorem mj_cI0 {i : Nat} {M' : MI} {b : Nat} {rest : List Value} {mc' ms' n' : Nat} {P : MH → Prop} (As : List Value) (hd : decode (mcode Γ.2.1) pc = .ok (.invokespecial i, 3)) (cw : CIw M' As.length) (hlk : LK (my Γ.2.1).cls i (my M')) (hnt : mhh M' = []) (hst : st = As.reverse ++ .ref b :: rest) (hcon : Con Γ.1 M' (.ref b :: As) mc' ms' n h (RetP none n' P)) (sd : Sd Γ M' k sl mc' ms' rest) (g : ∀ h', P h' → GG Γ (k + mc') (sl + ms') (pc + 3) ls (rest) n' h') : GG Γ k sl pc ls st n h := by
  refine mj_callI (As := As) (rest := rest) hd cw hnt hlk hcon hst sd.1 sd.2.1 sd.2.2.1 sd.2.2.2.1 sd.2.2.2.2 (fun v9 n9 h9 q => ?_) (fun E n9 h9 q => ?_)
  · obtain ⟨e, rfl, q⟩ := q
    cases e
    exact g h9 q
  · exact absurd q.1 (fun e => by cases e)
/-- a contract's end may be weakened -/
theorem vx_Met.mono {l : Launch} {y : MethodName} {ws : List Cond} {rm : Room} {Pc : Array Value → State → Prop} {Qc Qc' : Array Value → State → Outcome → State → Prop} {XC XC' : String → State → State → Prop} {mc ms : Nat} {free : Addr → Prop} (h : vx_Met l y ws rm Pc Qc XC mc ms free) (hq : ∀ a st o t, Qc a st o t → Qc' a st o t) (hx : ∀ E st t, XC E st t → XC' E st t) : vx_Met l y ws rm Pc Qc' XC' mc ms free := by
  intro p e ha hc hk s m args below hf hap hP hK
  obtain ⟨t, o, h1, h2, h3, h4⟩ := h p e ha hc hk s m args below hf hap hP hK
  refine ⟨t, o, h1, h2, h3, ?_⟩
  rcases h4 with ⟨a, b⟩ | ⟨q, e1, E, ce, L, x, y⟩
  · exact Or.inl ⟨hq _ _ _ _ a, b⟩
  · exact Or.inr ⟨q, e1, E, ce, L, hx _ _ _ x, y⟩
theorem Con.mono {K : KX} {M : MI} {av : List Value} {mc ms : Nat} {Q Q' : RQ} (c : Con K M av mc ms n h Q) (hq : ∀ r n' h', Q r n' h' → Q' r n' h') : Con K M av mc ms n h Q' := by
  refine vx_Met.mono c ?_ ?_
  · rintro a st o t ⟨v, n', h', e, q, R, F⟩
    exact ⟨v, n', h', e, hq _ _ _ q, R, F⟩
  · rintro E st t ⟨n', h', q, R, F⟩
    exact ⟨n', h', hq _ _ _ q, R, F⟩
end MJ6
-- small laws of the numbers
theorem ixn {j : Nat} (h : j < 2147483648) : (nI j).toInt = (j : Int) := nI_toInt h
theorem nI_p (n : Nat) : nI (n + 1) - 1 = nI n := nI_pred n
theorem nI_s (n : Nat) : nI n + Int32.ofInt 1 = nI (n + 1) := nI_1 n
/-- the heap differs only on the cells from a up to b -/
def Off (a b : Nat) (h h' : MH) : Prop := ∀ q, (q < a ∨ b ≤ q) → h' q = h q
theorem Off.rf {a b : Nat} {h : MH} : Off a b h h := fun _ _ => rfl
theorem Off.tr {a b : Nat} {h h1 h2 : MH} (x : Off a b h h1) (y : Off a b h1 h2) : Off a b h h2 := fun q e => (y q e).trans (x q e)
theorem Off.up {a b c d : Nat} {h h1 : MH} (x : Off c d h h1) (e1 : a ≤ c) (e2 : d ≤ b) : Off a b h h1 := fun q e => x q (by omega)
theorem Off.m {a b : Nat} {h h1 : MH} (x : Off a b h h1) {c : Nat} (v : MC) (h3 : a ≤ c) (h4 : c < b) : Off a b h (mup h1 c v) := fun q e => (mup_n h1 v (by omega)).trans (x q e)
theorem Off.m0 {a b : Nat} {h : MH} {c : Nat} (v : MC) (h3 : a ≤ c) (h4 : c < b) : Off a b h (mup h c v) := Off.rf.m v h3 h4
theorem Off.at {a b : Nat} {h h1 : MH} (x : Off a b h h1) {q : Nat} {c : MC} (e : h q = some c) (hq : q < a ∨ b ≤ q) : h1 q = some c := (x q hq).trans e
theorem lvE (v : Value) (l : List Value) (i : Nat) : lv_args i (v :: l) = (i, v) :: lv_args (if v.category = 2 then i + 2 else i + 1) l := rfl
