theorem SvOk.a2 {h h' : MH} {n c : Nat} {sv : Nat → Option (Nat × BS)} (x : SvOk h n c sv) (e : ∀ q, (q = c + 143 ∨ c + 193 ≤ q) → h' q = h q) : SvOk h' n c sv := by
  obtain ⟨⟨f, x0, x1⟩, x2, x3⟩ := x
  exact ⟨⟨f, (e _ (Or.inl rfl)).trans x0, x1⟩, fun i hi s D hs => by
    obtain ⟨y1, y2, y3⟩ := x2 i hi s D hs
    exact ⟨y1.at fun q h1 h2 => e q (Or.inr (by omega)), y2, y3⟩, x3⟩
/-- the class's object stands where only the reference and the law's row have changed -/
theorem Cp.at {h h' : MH} {n c : Nat} {P : CS} (x : Cp h n c P) (e : ∀ q, (q < c + 176 ∨ c + 193 ≤ q) → h' q = h q) : Cp h' n c P := by
  obtain ⟨ba, sa, Sp, S, H, A, V, Kx, ⟨c0, bd, sp, sv, ins, pf, mt, sh, tx, rd, ad, nn⟩, xfc, xfp⟩ := x
  exact ⟨ba, sa, Sp, S, H, A, V, Kx, ⟨(e _ (by omega)).trans c0, bd.at fun q h1 h2 => e q (by omega), sp.at fun q h1 h2 => e q (by omega), sv.a2 fun q h1 => e q (by omega), ins.at fun q h1 h2 => e q (by omega), pf.at fun q h1 h2 => e q (by omega), mt.at fun q h1 h2 => e q (by omega), sh.at fun q h1 h2 => e q (by omega), tx.at fun q h1 h2 => e q (by omega), rd.at fun q h1 h2 => e q (by omega), ad, nn⟩, xfc, xfp⟩
theorem Cp.obj {h : MH} {n c : Nat} {P : CS} (x : Cp h n c P) : ∃ fs, h c = some (cO 10 fs) := by
  obtain ⟨ba, sa, Sp, S, H, A, V, Kx, ⟨c0, -⟩, -⟩ := x
  exact ⟨_, c0⟩
theorem Md.re {h0 h h' : MH} {m : Nat} {M : MS} (x : Md h0 m M h) (e : ∀ q, m ≤ q → q < m + 16 → h' q = h q) : Md h' m M h' := by
  obtain ⟨x0, x1, x2, x3, x4, x5, x6, x7, x8, x9, xa, xb, xc, xd, xe, xf, -⟩ := x
  exact ⟨(e _ (by omega) (by omega)).trans x0, (e _ (by omega) (by omega)).trans x1, (e _ (by omega) (by omega)).trans x2, (e _ (by omega) (by omega)).trans x3, (e _ (by omega) (by omega)).trans x4, (e _ (by omega) (by omega)).trans x5, (e _ (by omega) (by omega)).trans x6, (e _ (by omega) (by omega)).trans x7, (e _ (by omega) (by omega)).trans x8, (e _ (by omega) (by omega)).trans x9, (e _ (by omega) (by omega)).trans xa, (e _ (by omega) (by omega)).trans xb, (e _ (by omega) (by omega)).trans xc, (e _ (by omega) (by omega)).trans xd, (e _ (by omega) (by omega)).trans xe, (e _ (by omega) (by omega)).trans xf, Off.rf⟩
theorem Ms.re {h0 h h' : MH} {m : Nat} {M : MS} (x : Ms h0 m M h) (e : ∀ q, m ≤ q → q < m + 16 → h' q = h q) : Ms h' m M h' := by
  obtain ⟨M', y, z⟩ := x
  exact ⟨M', y.re e, z⟩
theorem Ms.obj {h0 h : MH} {m : Nat} {M : MS} (x : Ms h0 m M h) : ∃ fs, h m = some (cO 11 fs) := by
  obtain ⟨M', y, -⟩ := x
  exact ⟨_, y.ko⟩
/-- THE LAW'S INVARIANT over a relation R of the two states -/
def Jv (R : CS → MS → Prop) (c : Nat) : Nat → MH → Prop := fun n h => ∃ P M f, Cp h n c P ∧ Ms h (c + 176) M h ∧ h (c + 192) = some (cJ 1 f) ∧ c + 193 ≤ n ∧ R P M
theorem bI_inj {a b : Bool} (e : bI a = bI b) : a = b := by
  cases a <;> cases b <;> first | rfl | exact absurd e (by decide)
theorem vL0 (f : Nat → Int64) (v : Int64) : vp_updL f 0 v 0 = v := by simp [vp_updL]
/-- both answer -/
theorem gl_I {K : KX} {c n n' : Nat} {h : MH} {R : CS → MS → Prop} {M M' : MS} {f : Nat → Int64} {A AL B : MI} {AA0 AA AB : List Value} {Es : List String} {v : Int32} {mc ms : Nat} {PP : MH → Prop} {QQ : CS → Prop}
    (mm : Ms h (c + 176) M h) (ho : h (c + 192) = some (cJ 1 f)) (hn : c + 193 ≤ n) (hnn : n ≤ n') (hb1 : mc ≤ 100) (hb2 : ms ≤ 2000) (hcls : Con K A AA0 mc ms n h (RetP (some (.int v)) n' PP)) (hcl : ∀ Q', Con K A AA0 mc ms n h Q' → EOk Es Q' → VOi Q' → OOk (c + 192) Q' → Con K AL AA mc ms n h (LRi Es (c + 192) Q'))
    (hPP : ∀ h', PP h' → OffS c h h' ∧ ∃ P', Cp h' n' c P' ∧ QQ P') (href : ∀ h1, Ms h1 (c + 176) M h1 → Con K B AB 0 0 n' h1 (RetP (some (.int v)) n' (Ms h1 (c + 176) M'))) (hthr : gthr M' = 0) (hR : ∀ P', QQ P' → R P' M') : StepI K (c + 176) (c + 192) AL AA B AB (Jv R c) n h := by
  refine ⟨mc, ms, _, hb1, hb2, hcl _ hcls (fun E n9 h9 q => ?_) (fun w n9 h9 q => ?_) (fun r n9 h9 q => ?_), fun r n1 h1 q => ?_⟩
  · exact absurd q.1 (fun e => by cases e)
  · obtain ⟨e, -⟩ := q
    cases e
    exact ⟨v, rfl⟩
  · obtain ⟨o, -⟩ := hPP _ q.2.2
    exact ⟨f, (o _ (by omega) (by omega)).trans ho⟩
  · rcases q with ⟨i, h9, f9, q9, hof, rfl, rfl⟩ | ⟨E, j, q9, -⟩
    · obtain ⟨e1, rfl, hp⟩ := q9
      cases e1
      obtain ⟨o, P', cp', qq⟩ := hPP _ hp
      have mm1 : Ms (mup h9 (c + 192) (cJ 1 (vp_updL f9 0 v.toInt64))) (c + 176) M (mup h9 (c + 192) (cJ 1 (vp_updL f9 0 v.toInt64))) := mm.re fun q a b => (mup_n h9 _ (by omega)).trans (o q (by omega) (by omega))
      refine ⟨0, vp_updL f9 0 v.toInt64, v, _, rfl, mm1.obj, href _ mm1, fun h2 x2 => ⟨x2.obj, Ms (mup h9 (c + 192) (cJ 1 (vp_updL f9 0 v.toInt64))) (c + 176) M', (by rw [← hthr]; exact cs_thrown x2), fun h3 x3 => ⟨?_, fun _ => vL0 _ _, P', M', vp_updL f9 0 v.toInt64, cp'.at ?_, x3.re (fun _ _ _ => rfl), ?_, by omega, hR P' qq⟩⟩⟩
      · exact (x3.off _ (by omega)).trans (mup_s _ _ _)
      · intro q hq
        exact (x3.off q (by omega)).trans (mup_n h9 _ (by omega))
      · exact (x3.off _ (by omega)).trans (mup_s _ _ _)
    · exact absurd q9.1 (fun e => by cases e)
/-- the class throws, the reference says so -/
theorem gx_I {K : KX} {c n n' : Nat} {h : MH} {R : CS → MS → Prop} {M M' : MS} {f : Nat → Int64} {A AL B : MI} {AA0 AA AB : List Value} {Es : List String} {E : String} {j : Nat} {v : Int32} {mc ms : Nat} {PP : MH → Prop} {QQ : CS → Prop}
    (mm : Ms h (c + 176) M h) (ho : h (c + 192) = some (cJ 1 f)) (hn : c + 193 ≤ n) (hnn : n ≤ n') (hb1 : mc ≤ 100) (hb2 : ms ≤ 2000) (hcls : Con K A AA0 mc ms n h (ThrP E n' PP)) (hcl : ∀ Q', Con K A AA0 mc ms n h Q' → EOk Es Q' → VOi Q' → OOk (c + 192) Q' → Con K AL AA mc ms n h (LRi Es (c + 192) Q')) (hE : Es[j]? = some E) (hnd : ∀ j', Es[j']? = some E → j' = j) (hk : ¬ nI (j + 1) = 0)
    (hPP : ∀ h', PP h' → OffS c h h' ∧ ∃ P', Cp h' n c P' ∧ QQ P') (href : ∀ n1 h1, Ms h1 (c + 176) M h1 → Con K B AB 0 0 n1 h1 (RetP (some (.int v)) n1 (Ms h1 (c + 176) M'))) (hthr : gthr M' = nI (j + 1)) (hR : ∀ P', QQ P' → R P' M') : StepI K (c + 176) (c + 192) AL AA B AB (Jv R c) n h := by
  refine ⟨mc, ms, _, hb1, hb2, hcl _ hcls (fun E9 n9 h9 q => ?_) (fun w n9 h9 q => ?_) (fun r n9 h9 q => ?_), fun r n1 h1 q => ?_⟩
  · obtain ⟨e, -⟩ := q
    cases e
    exact ⟨j, hE⟩
  · exact absurd q.1 (fun e => by cases e)
  · obtain ⟨o, -⟩ := hPP _ q.2.2
    exact ⟨f, (o _ (by omega) (by omega)).trans ho⟩
  · rcases q with ⟨i, h9, f9, q9, -⟩ | ⟨E9, j9, q9, hj9, rfl⟩
    · exact absurd q9.1 (fun e => by cases e)
    · obtain ⟨e1, hle, hp⟩ := q9
      cases e1
      cases hnd j9 hj9
      obtain ⟨o, P', cp', qq⟩ := hPP _ hp
      have mm1 : Ms h1 (c + 176) M h1 := mm.re fun q a b => o q (by omega) (by omega)
      have ho1 : h1 (c + 192) = some (cJ 1 f) := (o _ (by omega) (by omega)).trans ho
      refine ⟨nI (j + 1), f, v, _, rfl, mm1.obj, href _ _ mm1, fun h2 x2 => ⟨x2.obj, Ms h1 (c + 176) M', (by rw [← hthr]; exact cs_thrown x2), fun h3 x3 => ⟨?_, fun e => absurd e hk, P', M', f, (cp'.mono (by omega)).at ?_, x3.re (fun _ _ _ => rfl), ?_, by omega, hR P' qq⟩⟩⟩
      · exact (x3.off _ (by omega)).trans ho1
      · intro q hq
        exact x3.off q (by omega)
      · exact (x3.off _ (by omega)).trans ho1
/-- both answer -/
theorem gl_Z {K : KX} {c n n' : Nat} {h : MH} {R : CS → MS → Prop} {M M' : MS} {f : Nat → Int64} {A AL B : MI} {AA0 AA AB : List Value} {Es : List String} {v : Bool} {mc ms : Nat} {PP : MH → Prop} {QQ : CS → Prop}
    (mm : Ms h (c + 176) M h) (ho : h (c + 192) = some (cJ 1 f)) (hn : c + 193 ≤ n) (hnn : n ≤ n') (hb1 : mc ≤ 100) (hb2 : ms ≤ 2000) (hcls : Con K A AA0 mc ms n h (RetP (some (.int (bI v))) n' PP)) (hcl : ∀ Q', Con K A AA0 mc ms n h Q' → EOk Es Q' → VOz Q' → OOk (c + 192) Q' → Con K AL AA mc ms n h (LRz Es (c + 192) Q'))
    (hPP : ∀ h', PP h' → OffS c h h' ∧ ∃ P', Cp h' n' c P' ∧ QQ P') (href : ∀ h1, Ms h1 (c + 176) M h1 → Con K B AB 0 0 n' h1 (RetP (some (.int (bI v))) n' (Ms h1 (c + 176) M'))) (hthr : gthr M' = 0) (hR : ∀ P', QQ P' → R P' M') : StepZ K (c + 176) (c + 192) AL AA B AB (Jv R c) n h := by
  refine ⟨mc, ms, _, hb1, hb2, hcl _ hcls (fun E n9 h9 q => ?_) (fun w n9 h9 q => ?_) (fun r n9 h9 q => ?_), fun r n1 h1 q => ?_⟩
  · exact absurd q.1 (fun e => by cases e)
  · obtain ⟨e, -⟩ := q
    cases e
    exact ⟨v, rfl⟩
  · obtain ⟨o, -⟩ := hPP _ q.2.2
    exact ⟨f, (o _ (by omega) (by omega)).trans ho⟩
  · rcases q with ⟨i, h9, f9, q9, hof, rfl, rfl⟩ | ⟨E, j, q9, -⟩
    · obtain ⟨e1, rfl, hp⟩ := q9
      obtain rfl : v = i := by
        have e2 : (Sum.inl (some (Value.int (bI i))) : Option Value ⊕ String) = Sum.inl (some (Value.int (bI v))) := e1
        injection e2 with e3
        injection e3 with e4
        injection e4 with e5
        exact (bI_inj e5).symm
      obtain ⟨o, P', cp', qq⟩ := hPP _ hp
      have mm1 : Ms (mup h9 (c + 192) (cJ 1 (vp_updL f9 0 (if v then 1 else 0)))) (c + 176) M (mup h9 (c + 192) (cJ 1 (vp_updL f9 0 (if v then 1 else 0)))) := mm.re fun q a b => (mup_n h9 _ (by omega)).trans (o q (by omega) (by omega))
      refine ⟨0, vp_updL f9 0 (if v then 1 else 0), v, _, rfl, mm1.obj, href _ mm1, fun h2 x2 => ⟨x2.obj, Ms (mup h9 (c + 192) (cJ 1 (vp_updL f9 0 (if v then 1 else 0)))) (c + 176) M', (by rw [← hthr]; exact cs_thrown x2), fun h3 x3 => ⟨?_, fun _ => vL0 _ _, P', M', vp_updL f9 0 (if v then 1 else 0), cp'.at ?_, x3.re (fun _ _ _ => rfl), ?_, by omega, hR P' qq⟩⟩⟩
      · exact (x3.off _ (by omega)).trans (mup_s _ _ _)
      · intro q hq
        exact (x3.off q (by omega)).trans (mup_n h9 _ (by omega))
      · exact (x3.off _ (by omega)).trans (mup_s _ _ _)
    · exact absurd q9.1 (fun e => by cases e)
/-- the class throws, the reference says so -/
theorem gx_Z {K : KX} {c n n' : Nat} {h : MH} {R : CS → MS → Prop} {M M' : MS} {f : Nat → Int64} {A AL B : MI} {AA0 AA AB : List Value} {Es : List String} {E : String} {j : Nat} {v : Bool} {mc ms : Nat} {PP : MH → Prop} {QQ : CS → Prop}
    (mm : Ms h (c + 176) M h) (ho : h (c + 192) = some (cJ 1 f)) (hn : c + 193 ≤ n) (hnn : n ≤ n') (hb1 : mc ≤ 100) (hb2 : ms ≤ 2000) (hcls : Con K A AA0 mc ms n h (ThrP E n' PP)) (hcl : ∀ Q', Con K A AA0 mc ms n h Q' → EOk Es Q' → VOz Q' → OOk (c + 192) Q' → Con K AL AA mc ms n h (LRz Es (c + 192) Q')) (hE : Es[j]? = some E) (hnd : ∀ j', Es[j']? = some E → j' = j) (hk : ¬ nI (j + 1) = 0)
    (hPP : ∀ h', PP h' → OffS c h h' ∧ ∃ P', Cp h' n c P' ∧ QQ P') (href : ∀ n1 h1, Ms h1 (c + 176) M h1 → Con K B AB 0 0 n1 h1 (RetP (some (.int (bI v))) n1 (Ms h1 (c + 176) M'))) (hthr : gthr M' = nI (j + 1)) (hR : ∀ P', QQ P' → R P' M') : StepZ K (c + 176) (c + 192) AL AA B AB (Jv R c) n h := by
  refine ⟨mc, ms, _, hb1, hb2, hcl _ hcls (fun E9 n9 h9 q => ?_) (fun w n9 h9 q => ?_) (fun r n9 h9 q => ?_), fun r n1 h1 q => ?_⟩
  · obtain ⟨e, -⟩ := q
    cases e
    exact ⟨j, hE⟩
  · exact absurd q.1 (fun e => by cases e)
  · obtain ⟨o, -⟩ := hPP _ q.2.2
    exact ⟨f, (o _ (by omega) (by omega)).trans ho⟩
  · rcases q with ⟨i, h9, f9, q9, -⟩ | ⟨E9, j9, q9, hj9, rfl⟩
    · exact absurd q9.1 (fun e => by cases e)
    · obtain ⟨e1, hle, hp⟩ := q9
      cases e1
      cases hnd j9 hj9
      obtain ⟨o, P', cp', qq⟩ := hPP _ hp
      have mm1 : Ms h1 (c + 176) M h1 := mm.re fun q a b => o q (by omega) (by omega)
      have ho1 : h1 (c + 192) = some (cJ 1 f) := (o _ (by omega) (by omega)).trans ho
      refine ⟨nI (j + 1), f, v, _, rfl, mm1.obj, href _ _ mm1, fun h2 x2 => ⟨x2.obj, Ms h1 (c + 176) M', (by rw [← hthr]; exact cs_thrown x2), fun h3 x3 => ⟨?_, fun e => absurd e hk, P', M', f, (cp'.mono (by omega)).at ?_, x3.re (fun _ _ _ => rfl), ?_, by omega, hR P' qq⟩⟩⟩
      · exact (x3.off _ (by omega)).trans ho1
      · intro q hq
        exact x3.off q (by omega)
      · exact (x3.off _ (by omega)).trans ho1
/-- both answer -/
theorem gl_J {K : KX} {c n n' : Nat} {h : MH} {R : CS → MS → Prop} {M M' : MS} {f : Nat → Int64} {A AL B : MI} {AA0 AA AB : List Value} {Es : List String} {v : Int64} {mc ms : Nat} {PP : MH → Prop} {QQ : CS → Prop}
    (mm : Ms h (c + 176) M h) (ho : h (c + 192) = some (cJ 1 f)) (hn : c + 193 ≤ n) (hnn : n ≤ n') (hb1 : mc ≤ 100) (hb2 : ms ≤ 2000) (hcls : Con K A AA0 mc ms n h (RetP (some (.long v)) n' PP)) (hcl : ∀ Q', Con K A AA0 mc ms n h Q' → EOk Es Q' → VOj Q' → OOk (c + 192) Q' → Con K AL AA mc ms n h (LRj Es (c + 192) Q'))
    (hPP : ∀ h', PP h' → OffS c h h' ∧ ∃ P', Cp h' n' c P' ∧ QQ P') (href : ∀ h1, Ms h1 (c + 176) M h1 → Con K B AB 0 0 n' h1 (RetP (some (.long v)) n' (Ms h1 (c + 176) M'))) (hthr : gthr M' = 0) (hR : ∀ P', QQ P' → R P' M') : StepJ K (c + 176) (c + 192) AL AA B AB (Jv R c) n h := by
  refine ⟨mc, ms, _, hb1, hb2, hcl _ hcls (fun E n9 h9 q => ?_) (fun w n9 h9 q => ?_) (fun r n9 h9 q => ?_), fun r n1 h1 q => ?_⟩
  · exact absurd q.1 (fun e => by cases e)
  · obtain ⟨e, -⟩ := q
    cases e
    exact ⟨v, rfl⟩
  · obtain ⟨o, -⟩ := hPP _ q.2.2
    exact ⟨f, (o _ (by omega) (by omega)).trans ho⟩
  · rcases q with ⟨i, h9, f9, q9, hof, rfl, rfl⟩ | ⟨E, j, q9, -⟩
    · obtain ⟨e1, rfl, hp⟩ := q9
      cases e1
      obtain ⟨o, P', cp', qq⟩ := hPP _ hp
      have mm1 : Ms (mup h9 (c + 192) (cJ 1 (vp_updL f9 0 v))) (c + 176) M (mup h9 (c + 192) (cJ 1 (vp_updL f9 0 v))) := mm.re fun q a b => (mup_n h9 _ (by omega)).trans (o q (by omega) (by omega))
      refine ⟨0, vp_updL f9 0 v, v, _, rfl, mm1.obj, href _ mm1, fun h2 x2 => ⟨x2.obj, Ms (mup h9 (c + 192) (cJ 1 (vp_updL f9 0 v))) (c + 176) M', (by rw [← hthr]; exact cs_thrown x2), fun h3 x3 => ⟨?_, fun _ => vL0 _ _, P', M', vp_updL f9 0 v, cp'.at ?_, x3.re (fun _ _ _ => rfl), ?_, by omega, hR P' qq⟩⟩⟩
      · exact (x3.off _ (by omega)).trans (mup_s _ _ _)
      · intro q hq
        exact (x3.off q (by omega)).trans (mup_n h9 _ (by omega))
      · exact (x3.off _ (by omega)).trans (mup_s _ _ _)
    · exact absurd q9.1 (fun e => by cases e)
/-- the class throws, the reference says so -/
theorem gx_J {K : KX} {c n n' : Nat} {h : MH} {R : CS → MS → Prop} {M M' : MS} {f : Nat → Int64} {A AL B : MI} {AA0 AA AB : List Value} {Es : List String} {E : String} {j : Nat} {v : Int64} {mc ms : Nat} {PP : MH → Prop} {QQ : CS → Prop}
    (mm : Ms h (c + 176) M h) (ho : h (c + 192) = some (cJ 1 f)) (hn : c + 193 ≤ n) (hnn : n ≤ n') (hb1 : mc ≤ 100) (hb2 : ms ≤ 2000) (hcls : Con K A AA0 mc ms n h (ThrP E n' PP)) (hcl : ∀ Q', Con K A AA0 mc ms n h Q' → EOk Es Q' → VOj Q' → OOk (c + 192) Q' → Con K AL AA mc ms n h (LRj Es (c + 192) Q')) (hE : Es[j]? = some E) (hnd : ∀ j', Es[j']? = some E → j' = j) (hk : ¬ nI (j + 1) = 0)
    (hPP : ∀ h', PP h' → OffS c h h' ∧ ∃ P', Cp h' n c P' ∧ QQ P') (href : ∀ n1 h1, Ms h1 (c + 176) M h1 → Con K B AB 0 0 n1 h1 (RetP (some (.long v)) n1 (Ms h1 (c + 176) M'))) (hthr : gthr M' = nI (j + 1)) (hR : ∀ P', QQ P' → R P' M') : StepJ K (c + 176) (c + 192) AL AA B AB (Jv R c) n h := by
  refine ⟨mc, ms, _, hb1, hb2, hcl _ hcls (fun E9 n9 h9 q => ?_) (fun w n9 h9 q => ?_) (fun r n9 h9 q => ?_), fun r n1 h1 q => ?_⟩
  · obtain ⟨e, -⟩ := q
    cases e
    exact ⟨j, hE⟩
  · exact absurd q.1 (fun e => by cases e)
  · obtain ⟨o, -⟩ := hPP _ q.2.2
    exact ⟨f, (o _ (by omega) (by omega)).trans ho⟩
  · rcases q with ⟨i, h9, f9, q9, -⟩ | ⟨E9, j9, q9, hj9, rfl⟩
    · exact absurd q9.1 (fun e => by cases e)
    · obtain ⟨e1, hle, hp⟩ := q9
      cases e1
      cases hnd j9 hj9
      obtain ⟨o, P', cp', qq⟩ := hPP _ hp
      have mm1 : Ms h1 (c + 176) M h1 := mm.re fun q a b => o q (by omega) (by omega)
      have ho1 : h1 (c + 192) = some (cJ 1 f) := (o _ (by omega) (by omega)).trans ho
      refine ⟨nI (j + 1), f, v, _, rfl, mm1.obj, href _ _ mm1, fun h2 x2 => ⟨x2.obj, Ms h1 (c + 176) M', (by rw [← hthr]; exact cs_thrown x2), fun h3 x3 => ⟨?_, fun e => absurd e hk, P', M', f, (cp'.mono (by omega)).at ?_, x3.re (fun _ _ _ => rfl), ?_, by omega, hR P' qq⟩⟩⟩
      · exact (x3.off _ (by omega)).trans ho1
      · intro q hq
        exact x3.off q (by omega)
      · exact (x3.off _ (by omega)).trans ho1
/-- save and restore: nothing is answered -/
theorem gl_V {K : KX} {c n n' : Nat} {h : MH} {R : CS → MS → Prop} {M M' : MS} {f : Nat → Int64} {A AL B : MI} {AA0 AA AB : List Value} {Es : List String} {mc ms : Nat} {PP : MH → Prop} {QQ : CS → Prop}
    (mm : Ms h (c + 176) M h) (ho : h (c + 192) = some (cJ 1 f)) (hn : c + 193 ≤ n) (hnn : n ≤ n') (hb1 : mc ≤ 100) (hb2 : ms ≤ 2000) (hcls : Con K A AA0 mc ms n h (RetP none n' PP)) (hcl : ∀ Q', Con K A AA0 mc ms n h Q' → EOk Es Q' → VOv Q' → Con K AL AA mc ms n h (LRv Es Q'))
    (hPP : ∀ h', PP h' → OffS c h h' ∧ ∃ P', Cp h' n' c P' ∧ QQ P') (href : ∀ h1, Ms h1 (c + 176) M h1 → Con K B AB 0 0 n' h1 (RetP none n' (Ms h1 (c + 176) M'))) (hthr : gthr M' = 0) (hR : ∀ P', QQ P' → R P' M') : StepV K (c + 176) AL AA B AB (Jv R c) n h := by
  refine ⟨mc, ms, _, hb1, hb2, hcl _ hcls (fun E n9 h9 q => ?_) (fun w n9 h9 q => ?_), fun r n1 h1 q => ?_⟩
  · exact absurd q.1 (fun e => by cases e)
  · obtain ⟨e, -⟩ := q
    cases e
    rfl
  · rcases q with ⟨q9, rfl⟩ | ⟨E, j, q9, -⟩
    · obtain ⟨-, rfl, hp⟩ := q9
      obtain ⟨o, P', cp', qq⟩ := hPP _ hp
      have mm1 : Ms h1 (c + 176) M h1 := mm.re fun q a b => o q (by omega) (by omega)
      have ho1 : h1 (c + 192) = some (cJ 1 f) := (o _ (by omega) (by omega)).trans ho
      refine ⟨0, _, rfl, mm1.obj, href _ mm1, fun h2 x2 => ⟨x2.obj, Ms h1 (c + 176) M', (by rw [← hthr]; exact cs_thrown x2), fun h3 x3 => ⟨P', M', f, cp'.at ?_, x3.re (fun _ _ _ => rfl), ?_, by omega, hR P' qq⟩⟩⟩
      · intro q hq
        exact x3.off q (by omega)
      · exact (x3.off _ (by omega)).trans ho1
    · exact absurd q9.1 (fun e => by cases e)
theorem gx_V {K : KX} {c n n' : Nat} {h : MH} {R : CS → MS → Prop} {M M' : MS} {f : Nat → Int64} {A AL B : MI} {AA0 AA AB : List Value} {Es : List String} {E : String} {j : Nat} {mc ms : Nat} {PP : MH → Prop} {QQ : CS → Prop}
    (mm : Ms h (c + 176) M h) (ho : h (c + 192) = some (cJ 1 f)) (hn : c + 193 ≤ n) (hnn : n ≤ n') (hb1 : mc ≤ 100) (hb2 : ms ≤ 2000) (hcls : Con K A AA0 mc ms n h (ThrP E n' PP)) (hcl : ∀ Q', Con K A AA0 mc ms n h Q' → EOk Es Q' → VOv Q' → Con K AL AA mc ms n h (LRv Es Q')) (hE : Es[j]? = some E) (hnd : ∀ j', Es[j']? = some E → j' = j)
    (hPP : ∀ h', PP h' → OffS c h h' ∧ ∃ P', Cp h' n c P' ∧ QQ P') (href : ∀ n1 h1, Ms h1 (c + 176) M h1 → Con K B AB 0 0 n1 h1 (RetP none n1 (Ms h1 (c + 176) M'))) (hthr : gthr M' = nI (j + 1)) (hR : ∀ P', QQ P' → R P' M') : StepV K (c + 176) AL AA B AB (Jv R c) n h := by
  refine ⟨mc, ms, _, hb1, hb2, hcl _ hcls (fun E9 n9 h9 q => ?_) (fun w n9 h9 q => ?_), fun r n1 h1 q => ?_⟩
  · obtain ⟨e, -⟩ := q
    cases e
    exact ⟨j, hE⟩
  · exact absurd q.1 (fun e => by cases e)
  · rcases q with ⟨q9, -⟩ | ⟨E9, j9, q9, hj9, rfl⟩
    · exact absurd q9.1 (fun e => by cases e)
    · obtain ⟨e1, hle, hp⟩ := q9
      cases e1
      cases hnd j9 hj9
      obtain ⟨o, P', cp', qq⟩ := hPP _ hp
      have mm1 : Ms h1 (c + 176) M h1 := mm.re fun q a b => o q (by omega) (by omega)
      have ho1 : h1 (c + 192) = some (cJ 1 f) := (o _ (by omega) (by omega)).trans ho
      refine ⟨nI (j + 1), _, rfl, mm1.obj, href _ _ mm1, fun h2 x2 => ⟨x2.obj, Ms h1 (c + 176) M', (by rw [← hthr]; exact cs_thrown x2), fun h3 x3 => ⟨P', M', f, (cp'.mono (by omega)).at ?_, x3.re (fun _ _ _ => rfl), ?_, by omega, hR P' qq⟩⟩⟩
      · intro q hq
        exact x3.off q (by omega)
      · exact (x3.off _ (by omega)).trans ho1
/-- a call that throws nothing -/
theorem gl_D {K : KX} {c n n' : Nat} {h : MH} {R : CS → MS → Prop} {P : CS} {M M' : MS} {f : Nat → Int64} {A B : MI} {AA AB : List Value} {v : Int32} {mc ms : Nat} {PP : MH → Prop} {QQ : CS → Prop} (cp : Cp h n c P)
    (mm : Ms h (c + 176) M h) (ho : h (c + 192) = some (cJ 1 f)) (hn : c + 193 ≤ n) (hnn : n ≤ n') (hb1 : mc ≤ 100) (hb2 : ms ≤ 2000) (hcls : Con K A AA mc ms n h (RetP (some (.int v)) n' PP))
    (hPP : ∀ h', PP h' → OffS c h h' ∧ ∃ P', Cp h' n' c P' ∧ QQ P') (href : ∀ h1, Ms h1 (c + 176) M h1 → Con K B AB 0 0 n' h1 (RetP (some (.int v)) n' (Ms h1 (c + 176) M'))) (hR : ∀ P', QQ P' → R P' M') : StepD K c (c + 176) A AA B AB (Jv R c) n h := by
  refine ⟨mc, ms, v, n', _, hb1, hb2, cp.obj, hcls, fun h1 q => ?_⟩
  obtain ⟨o, P', cp', qq⟩ := hPP _ q
  have mm1 : Ms h1 (c + 176) M h1 := mm.re fun q a b => o q (by omega) (by omega)
  have ho1 : h1 (c + 192) = some (cJ 1 f) := (o _ (by omega) (by omega)).trans ho
  exact ⟨mm1.obj, _, href _ mm1, fun h3 x3 => ⟨P', M', f, cp'.at (fun q hq => x3.off q (by omega)), x3.re (fun _ _ _ => rfl), (x3.off _ (by omega)).trans ho1, by omega, hR P' qq⟩⟩
