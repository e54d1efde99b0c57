section MJ4
variable {Γ : GX} {k sl pc n : Nat} {ls : List (Nat × Value)} {st : List Value} {h : MH}
theorem va_S.grow {A : Nat → Prop} {H0 H H1 : Heap} {locs : List Loc} (S : va_S A H0 H locs) (z : H.size ≤ H1.size) (o : ∀ q : Nat, q < H.size → H1[q]? = H[q]?) : va_S A H0 H1 locs :=
  ⟨Nat.le_trans S.1 z, fun x h1 h2 => (o x (Nat.lt_of_lt_of_le h1 S.1)).trans (S.2.1 x h1 h2), S.2.2⟩
theorem mj_new {i ci N : Nat} {fs : List Value} (hd : decode (mcode Γ.2.1) pc = .ok (.new i, 3)) (hf : NF (my Γ.2.1).cls i ci N) (hfs : ∀ j, j < N → defaultValue (tyC ci j) = vp_V fs j) (hc9 : k + 1 ≤ Γ.2.2.1) (hs9 : sl + N ≤ Γ.2.2.2.1) (g : GG Γ (k + 1) (sl + N) (pc + 3) ls (.ref n :: st) (n + 1) (mup h n (cO ci fs))) : GG Γ k sl pc ls st n h := by
  intro p e s m args below meth c H locs lsr C S R L
  obtain ⟨r, hc, hN, h1, h2, h3⟩ := hf
  subst hN
  have hts : ∀ w ∈ TG, w.before args s = true := C.2.2.2.2.2.1
  have hK : va_K (kD Γ.1) vwCl (ktys Γ.1) s := C.2.2.2.2.2.2.2.2.2.1
  have hKn := hK.1 ci _ hc
  refine W.newcK C.1 C.2.1 C.2.2.2.2.1 (hts _ h1) (hts _ h2) (hts _ h3) rfl hd hc9 hs9 hKn.2.1 R.1 fun H1 kC hkC e1 z1 o1 => ?_
  refine g p e s m args below meth c H1 _ lsr C (S.grow (by rw [z1, R.1]; omega) (fun q hq => o1 q (by rw [← R.1]; exact hq))) (R.push z1 o1 ⟨_, hc, (u_born (tyC ci) hts (uwC hc) hKn hkC e1 (tyC_ok hc)).to hfs⟩) L
theorem mj_newaI {x : Int32} {N : Nat} (hd : decode (mcode Γ.2.1) pc = .ok (.newarray .int, 2)) (hw : Cond.arrayClass .int ∈ TG) (hx : x.toInt = (N : Int)) (hN : N ≤ 60000) (hc9 : k + 1 ≤ Γ.2.2.1) (hs9 : sl + N ≤ Γ.2.2.2.1) (g : GG Γ (k + 1) (sl + N) (pc + 2) ls (.ref n :: st) (n + 1) (mup h n (cI N (fun _ => 0)))) : GG Γ k sl pc ls (.int x :: st) n h := by
  intro p e s m args below meth c H locs lsr C S R L
  have hts : ∀ w ∈ TG, w.before args s = true := C.2.2.2.2.2.1
  have hK : va_K (kD Γ.1) vwCl (ktys Γ.1) s := C.2.2.2.2.2.2.2.2.2.1
  have hx0 : ¬ x < 0 := fun q => by
    have := Int32.lt_iff_toInt_lt.mp q
    have e0 : (0 : Int32).toInt = 0 := rfl
    omega
  refine va_newaK C.1 C.2.1 (atype := .int) (hts _ hw) rfl hd rfl hx0 (ix_cl hx) (by show N * componentBytes .int ≤ _; simp only [componentBytes]; omega) hc9 hs9 R.1 fun H1 cA e1 z1 o1 hAr hNm => ?_
  have hcA : cA = kcy Γ.1 0 := Option.some.inj (hNm.symm.trans (hK.2 0 _ rfl).2)
  subst hcA
  exact g p e s m args below meth c H1 _ lsr C (S.grow (by rw [z1, R.1]; omega) (fun q hq => o1 q (by rw [← R.1]; exact hq))) (R.push z1 o1 e1) L
theorem mj_newaJ {x : Int32} {N : Nat} (hd : decode (mcode Γ.2.1) pc = .ok (.newarray .long, 2)) (hw : Cond.arrayClass .long ∈ TG) (hx : x.toInt = (N : Int)) (hN : N ≤ 60000) (hc9 : k + 1 ≤ Γ.2.2.1) (hs9 : sl + N ≤ Γ.2.2.2.1) (g : GG Γ (k + 1) (sl + N) (pc + 2) ls (.ref n :: st) (n + 1) (mup h n (cJ N (fun _ => 0)))) : GG Γ k sl pc ls (.int x :: st) n h := by
  intro p e s m args below meth c H locs lsr C S R L
  have hts : ∀ w ∈ TG, w.before args s = true := C.2.2.2.2.2.1
  have hK : va_K (kD Γ.1) vwCl (ktys Γ.1) s := C.2.2.2.2.2.2.2.2.2.1
  have hx0 : ¬ x < 0 := fun q => by
    have := Int32.lt_iff_toInt_lt.mp q
    have e0 : (0 : Int32).toInt = 0 := rfl
    omega
  refine va_newaK C.1 C.2.1 (atype := .long) (hts _ hw) rfl hd rfl hx0 (ix_cl hx) (by show N * componentBytes .long ≤ _; simp only [componentBytes]; omega) hc9 hs9 R.1 fun H1 cA e1 z1 o1 hAr hNm => ?_
  have hcA : cA = kcy Γ.1 1 := Option.some.inj (hNm.symm.trans (hK.2 1 _ rfl).2)
  subst hcA
  exact g p e s m args below meth c H1 _ lsr C (S.grow (by rw [z1, R.1]; omega) (fun q hq => o1 q (by rw [← R.1]; exact hq))) (R.push z1 o1 e1) L
theorem mj_newaZ {x : Int32} {N : Nat} (hd : decode (mcode Γ.2.1) pc = .ok (.newarray .boolean, 2)) (hw : Cond.arrayClass .boolean ∈ TG) (hx : x.toInt = (N : Int)) (hN : N ≤ 60000) (hc9 : k + 1 ≤ Γ.2.2.1) (hs9 : sl + N ≤ Γ.2.2.2.1) (g : GG Γ (k + 1) (sl + N) (pc + 2) ls (.ref n :: st) (n + 1) (mup h n (cZ N (fun _ => 0)))) : GG Γ k sl pc ls (.int x :: st) n h := by
  intro p e s m args below meth c H locs lsr C S R L
  have hts : ∀ w ∈ TG, w.before args s = true := C.2.2.2.2.2.1
  have hK : va_K (kD Γ.1) vwCl (ktys Γ.1) s := C.2.2.2.2.2.2.2.2.2.1
  have hx0 : ¬ x < 0 := fun q => by
    have := Int32.lt_iff_toInt_lt.mp q
    have e0 : (0 : Int32).toInt = 0 := rfl
    omega
  refine va_newaK C.1 C.2.1 (atype := .boolean) (hts _ hw) rfl hd rfl hx0 (ix_cl hx) (by show N * componentBytes .boolean ≤ _; simp only [componentBytes]; omega) hc9 hs9 R.1 fun H1 cA e1 z1 o1 hAr hNm => ?_
  have hcA : cA = kcy Γ.1 2 := Option.some.inj (hNm.symm.trans (hK.2 2 _ rfl).2)
  subst hcA
  exact g p e s m args below meth c H1 _ lsr C (S.grow (by rw [z1, R.1]; omega) (fun q hq => o1 q (by rw [← R.1]; exact hq))) (R.push z1 o1 e1) L
theorem mj_newqB {i : Nat} {x : Int32} {N : Nat} (hd : decode (mcode Γ.2.1) pc = .ok (.anewarray i, 3)) (hw : Cond.classLink (my Γ.2.1).cls i "Carpool$Board" ∈ TG) (hw2 : Cond.arrayOver (.object "Carpool$Board") ∈ TN) (hx : x.toInt = (N : Int)) (hN : N ≤ 60000) (hc9 : k + 1 ≤ Γ.2.2.1) (hs9 : sl + N ≤ Γ.2.2.2.1) (g : GG Γ (k + 1) (sl + N) (pc + 3) ls (.ref n :: st) (n + 1) (mup h n (cQ 3 N (fun _ => none)))) : GG Γ k sl pc ls (.int x :: st) n h := by
  intro p e s m args below meth c H locs lsr C S R L
  have hts : ∀ w ∈ TG, w.before args s = true := C.2.2.2.2.2.1
  have hK : va_K (kD Γ.1) vwCl (ktys Γ.1) s := C.2.2.2.2.2.2.2.2.2.1
  have hx0 : ¬ x < 0 := fun q => by
    have := Int32.lt_iff_toInt_lt.mp q
    have e0 : (0 : Int32).toInt = 0 := rfl
    omega
  have hxN := ix_cl hx
  refine W.anew C.1 C.2.1 C.2.2.2.2.1 (hts _ hw) (tn_use rfl (C.2.2.2.2.2.2.2.2.2.2.2.1 _ hw2)) rfl hd rfl hx0 (by rw [hxN]; omega) hc9 (by rw [hxN]; exact hs9) fun cA kA9 comp f1 f2 f3 f4 => ?_
  obtain ⟨kA8, comp8, k1, k2, k3, k4⟩ := (hK.2 3 _ rfl).2
  have hcA : cA = kcy Γ.1 3 := Option.some.inj (f1.symm.trans k4)
  subst hcA
  rw [hxN, R.1]
  generalize hH1 : H.push _ = H1
  have z1 : H1.size = n + 1 := by rw [← hH1, Array.size_push, R.1]
  have e1 : H1[n]? = some (arrV (kcy Γ.1 3) N (fun _ => .null)) := by rw [← hH1, ← R.1, Array.getElem?_push_size, ← arrV_new]
  have o1 : ∀ q : Nat, q < n → H1[q]? = H[q]? := fun q hq => by rw [← hH1, Array.getElem?_push, if_neg (by rw [R.1]; exact Nat.ne_of_lt hq)]
  exact g p e s m args below meth c H1 _ lsr C (S.grow (by rw [z1, R.1]; omega) (fun q hq => o1 q (by rw [← R.1]; exact hq))) (R.push z1 o1 e1) L
theorem mj_newqD {i : Nat} {x : Int32} {N : Nat} (hd : decode (mcode Γ.2.1) pc = .ok (.anewarray i, 3)) (hw : Cond.classLink (my Γ.2.1).cls i "Carpool$Driver" ∈ TG) (hw2 : Cond.arrayOver (.object "Carpool$Driver") ∈ TN) (hx : x.toInt = (N : Int)) (hN : N ≤ 60000) (hc9 : k + 1 ≤ Γ.2.2.1) (hs9 : sl + N ≤ Γ.2.2.2.1) (g : GG Γ (k + 1) (sl + N) (pc + 3) ls (.ref n :: st) (n + 1) (mup h n (cQ 4 N (fun _ => none)))) : GG Γ k sl pc ls (.int x :: st) n h := by
  intro p e s m args below meth c H locs lsr C S R L
  have hts : ∀ w ∈ TG, w.before args s = true := C.2.2.2.2.2.1
  have hK : va_K (kD Γ.1) vwCl (ktys Γ.1) s := C.2.2.2.2.2.2.2.2.2.1
  have hx0 : ¬ x < 0 := fun q => by
    have := Int32.lt_iff_toInt_lt.mp q
    have e0 : (0 : Int32).toInt = 0 := rfl
    omega
  have hxN := ix_cl hx
  refine W.anew C.1 C.2.1 C.2.2.2.2.1 (hts _ hw) (tn_use rfl (C.2.2.2.2.2.2.2.2.2.2.2.1 _ hw2)) rfl hd rfl hx0 (by rw [hxN]; omega) hc9 (by rw [hxN]; exact hs9) fun cA kA9 comp f1 f2 f3 f4 => ?_
  obtain ⟨kA8, comp8, k1, k2, k3, k4⟩ := (hK.2 4 _ rfl).2
  have hcA : cA = kcy Γ.1 4 := Option.some.inj (f1.symm.trans k4)
  subst hcA
  rw [hxN, R.1]
  generalize hH1 : H.push _ = H1
  have z1 : H1.size = n + 1 := by rw [← hH1, Array.size_push, R.1]
  have e1 : H1[n]? = some (arrV (kcy Γ.1 4) N (fun _ => .null)) := by rw [← hH1, ← R.1, Array.getElem?_push_size, ← arrV_new]
  have o1 : ∀ q : Nat, q < n → H1[q]? = H[q]? := fun q hq => by rw [← hH1, Array.getElem?_push, if_neg (by rw [R.1]; exact Nat.ne_of_lt hq)]
  exact g p e s m args below meth c H1 _ lsr C (S.grow (by rw [z1, R.1]; omega) (fun q hq => o1 q (by rw [← R.1]; exact hq))) (R.push z1 o1 e1) L
theorem mj_newqR {i : Nat} {x : Int32} {N : Nat} (hd : decode (mcode Γ.2.1) pc = .ok (.anewarray i, 3)) (hw : Cond.classLink (my Γ.2.1).cls i "Carpool$Rider" ∈ TG) (hw2 : Cond.arrayOver (.object "Carpool$Rider") ∈ TN) (hx : x.toInt = (N : Int)) (hN : N ≤ 60000) (hc9 : k + 1 ≤ Γ.2.2.1) (hs9 : sl + N ≤ Γ.2.2.2.1) (g : GG Γ (k + 1) (sl + N) (pc + 3) ls (.ref n :: st) (n + 1) (mup h n (cQ 5 N (fun _ => none)))) : GG Γ k sl pc ls (.int x :: st) n h := by
  intro p e s m args below meth c H locs lsr C S R L
  have hts : ∀ w ∈ TG, w.before args s = true := C.2.2.2.2.2.1
  have hK : va_K (kD Γ.1) vwCl (ktys Γ.1) s := C.2.2.2.2.2.2.2.2.2.1
  have hx0 : ¬ x < 0 := fun q => by
    have := Int32.lt_iff_toInt_lt.mp q
    have e0 : (0 : Int32).toInt = 0 := rfl
    omega
  have hxN := ix_cl hx
  refine W.anew C.1 C.2.1 C.2.2.2.2.1 (hts _ hw) (tn_use rfl (C.2.2.2.2.2.2.2.2.2.2.2.1 _ hw2)) rfl hd rfl hx0 (by rw [hxN]; omega) hc9 (by rw [hxN]; exact hs9) fun cA kA9 comp f1 f2 f3 f4 => ?_
  obtain ⟨kA8, comp8, k1, k2, k3, k4⟩ := (hK.2 5 _ rfl).2
  have hcA : cA = kcy Γ.1 5 := Option.some.inj (f1.symm.trans k4)
  subst hcA
  rw [hxN, R.1]
  generalize hH1 : H.push _ = H1
  have z1 : H1.size = n + 1 := by rw [← hH1, Array.size_push, R.1]
  have e1 : H1[n]? = some (arrV (kcy Γ.1 5) N (fun _ => .null)) := by rw [← hH1, ← R.1, Array.getElem?_push_size, ← arrV_new]
  have o1 : ∀ q : Nat, q < n → H1[q]? = H[q]? := fun q hq => by rw [← hH1, Array.getElem?_push, if_neg (by rw [R.1]; exact Nat.ne_of_lt hq)]
  exact g p e s m args below meth c H1 _ lsr C (S.grow (by rw [z1, R.1]; omega) (fun q hq => o1 q (by rw [← R.1]; exact hq))) (R.push z1 o1 e1) L
/-- n cells more: rows of K' zeros behind the outer array -/
def mupRows (h : MH) (n N K' : Nat) : MH := fun q => if q = n then some (cQ 6 N (fun i => if i < N then some (n + 1 + i) else none)) else if n < q ∧ q < n + 1 + N then some (cI K' (fun _ => 0)) else h q
theorem mj_mna {i N K' : Nat} {x y : Int32} (hd : decode (mcode Γ.2.1) pc = .ok (.multianewarray i 2, 4)) (hw : Cond.classLink (my Γ.2.1).cls i "[[I" ∈ TG) (hw2 : Cond.arrayOver (.array .int) ∈ TN) (hw3 : Cond.arrayClass .int ∈ TG) (hx : x.toInt = (N : Int)) (hN : N ≤ 60000) (hy : y.toInt = (K' : Int)) (hK' : K' ≤ 60000) (hc9 : k + (1 + N) ≤ Γ.2.2.1) (hs9 : sl + (N + N * K') ≤ Γ.2.2.2.1) (g : GG Γ (k + (1 + N)) (sl + (N + N * K')) (pc + 4) ls (.ref n :: st) (n + 1 + N) (mupRows h n N K')) : GG Γ k sl pc ls (.int y :: .int x :: st) n h := by
  intro p e s m args below meth c H locs lsr C S R L
  have hts : ∀ w ∈ TG, w.before args s = true := C.2.2.2.2.2.1
  have hK : va_K (kD Γ.1) vwCl (ktys Γ.1) s := C.2.2.2.2.2.2.2.2.2.1
  have nn : ∀ (z : Int32) (M : Nat), z.toInt = (M : Int) → ¬ z < 0 := fun z M hz q => by
    have := Int32.lt_iff_toInt_lt.mp q
    have e0 : (0 : Int32).toInt = 0 := rfl
    omega
  have hxN := ix_cl hx
  have hyK := ix_cl hy
  intro T hT Xs
  obtain ⟨vm₁, cA, comp, -, fA, fC, hO, -, X', step⟩ := Xs.multianewarray2F C.1 C.2.2.2.2.1 (hts _ hw) (tn_use rfl (C.2.2.2.2.2.2.2.2.2.2.2.1 _ hw2)) (hts _ hw3) (g := F0 m pc lsr (.int y :: .int x :: st)) rfl (by rw [C.2.1]; exact hd) rfl (nn x N hx) (nn y K' hy) (by rw [hxN]; omega) (by rw [hyK]; simp only [componentBytes]; omega) (by rw [hyK]; omega) rfl rfl (by rw [hxN]; exact hc9) (by rw [hxN, hyK]; exact hs9)
  rw [hxN, hyK] at X' step
  generalize hF : Jvm.Free.Multi.fill (T.setVm vm₁) cA comp N K' (defaultValue .int) N = F at X' step
  have hTh : (T.setVm vm₁).heap = H := hT
  obtain ⟨f1, f2, -, -⟩ := Jvm.Free.Multi.fill_facts (T.setVm vm₁) cA comp N K' (defaultValue .int) N
  rw [hF, hTh] at f1 f2
  have hold : ∀ x : Nat, x < H.size → F.heap[x]? = H[x]? := fun x hx => by
    have := Jvm.Free.Multi.fill_old (T.setVm vm₁) cA comp N K' (defaultValue .int) (a := x) (by rw [hTh]; exact hx) N
    rw [hF, hTh] at this
    exact this
  have hcA : cA = kcy Γ.1 6 := Option.some.inj (fA.symm.trans (hK.2 6 _ rfl).2)
  have hcC : comp = kcy Γ.1 0 := Option.some.inj (fC.symm.trans (hK.2 0 _ rfl).2)
  subst hcA; subst hcC
  have hrow : ∀ j : Nat, j < N → F.heap[n + 1 + j]? = some (vp_cell (kcy Γ.1 0) (K', .inl (fun _ => 0))) := fun j hj => by
    have := Jvm.Free.Multi.fill_inner (T.setVm vm₁) (kcy Γ.1 6) (kcy Γ.1 0) N K' (defaultValue .int) N j hj
    rw [hF, hTh, R.1] at this
    rw [this, vp_cell_i, ← arrV_new]
    rfl
  have hout : Jvm.Free.Multi.outerC (kcy Γ.1 6) N H.size N = vp_cell (kcy Γ.1 6) (N, .inr (.inr (.inr (.inr (fun i => if i < N then some (H.size + 1 + i) else none))))) := by
    rw [vp_cell_q]
    exact vr_outer (kcy Γ.1 6) N H.size N
  rw [hout, R.1] at f2
  rw [R.1] at f1 hold
  have R' : RelH Γ.1 (n + 1 + N) (mupRows h n N K') F.heap := by
    refine ⟨by rw [f1], by have := R.2.1; omega, fun a c9 ha => ?_⟩
    unfold mupRows at ha
    by_cases q1 : a = n
    · rw [if_pos q1] at ha
      cases ha
      subst q1
      exact ⟨R.2.1, f2⟩
    · rw [if_neg q1] at ha
      by_cases q2 : n < a ∧ a < n + 1 + N
      · rw [if_pos q2] at ha
        cases ha
        refine ⟨by have := R.2.1; omega, ?_⟩
        have := hrow (a - (n + 1)) (by omega)
        rw [show n + 1 + (a - (n + 1)) = a by omega] at this
        exact this
      · rw [if_neg q2] at ha
        obtain ⟨h1, h2⟩ := R.2.2 a c9 ha
        exact ⟨h1, h2.kept (hold a (R.lt ha))⟩
  obtain ⟨t2, a1, b1⟩ := g p e s m args below meth c F.heap locs lsr C (S.grow (by rw [R'.1, R.1]; omega) (fun q hq => hold q (by rw [← R.1]; exact hq))) R' L F rfl (by rw [← Nat.add_assoc, ← Nat.add_assoc]; exact X')
  exact ⟨t2, step t2 (by rw [hT, R.1]; exact a1), b1⟩
-- Math
theorem mj_abs {i : Nat} {x v : Int32} (hd : decode (mcode Γ.2.1) pc = .ok (.invokestatic i, 3)) (hw : Cond.methodLink (my Γ.2.1).cls i Lib.Math.abs.name ∈ TG) (hw2 : Cond.static Lib.Math.abs.name ∈ TG) (hw3 : Cond.initialized "java/lang/Math" ∈ TG) (hw4 : Cond.code Lib.Math.abs.name Lib.Math.abs.code 1 (some .int) ∈ TG) (hfr : 1 ≤ mfr Γ.2.1) (hlo : (st.map fun v => v.category).sum + 13 ≤ mlo Γ.2.1) (hc9 : k ≤ Γ.2.2.1) (hs9 : sl ≤ Γ.2.2.2.1) (hv : (if 0 ≤ x then x else 0 - x) = v) (g : GG Γ k sl (pc + 3) ls (.int v :: st) n h) : GG Γ k sl pc ls (.int x :: st) n h := by
  intro p e s m args below meth c H locs lsr C S R L
  subst hv
  have hts : ∀ w ∈ TG, w.before args s = true := C.2.2.2.2.2.1
  exact va_mabs C.1 C.2.1 (C.2.2.2.1.trans L.1.symm) C.2.2.2.2.1 (hts _ hw) (hts _ hw2) (hts _ hw3) (hts _ hw4) hfr hlo hc9 hs9 hd (g p e s m args below meth c H locs lsr C S R L)
theorem mj_max {i : Nat} {x y v : Int32} (hd : decode (mcode Γ.2.1) pc = .ok (.invokestatic i, 3)) (hw : Cond.methodLink (my Γ.2.1).cls i Lib.Math.max.name ∈ TG) (hw2 : Cond.static Lib.Math.max.name ∈ TG) (hw3 : Cond.initialized "java/lang/Math" ∈ TG) (hw4 : Cond.code Lib.Math.max.name Lib.Math.max.code 2 (some .int) ∈ TG) (hfr : 1 ≤ mfr Γ.2.1) (hlo : (st.map fun v => v.category).sum + 13 ≤ mlo Γ.2.1) (hc9 : k ≤ Γ.2.2.1) (hs9 : sl ≤ Γ.2.2.2.1) (hv : (if x < y then y else x) = v) (g : GG Γ k sl (pc + 3) ls (.int v :: st) n h) : GG Γ k sl pc ls (.int y :: .int x :: st) n h := by
  intro p e s m args below meth c H locs lsr C S R L
  subst hv
  have hts : ∀ w ∈ TG, w.before args s = true := C.2.2.2.2.2.1
  exact va_mmax C.1 C.2.1 (C.2.2.2.1.trans L.1.symm) C.2.2.2.2.1 (hts _ hw) (hts _ hw2) (hts _ hw3) (hts _ hw4) hfr hlo hc9 hs9 hd (g p e s m args below meth c H locs lsr C S R L)
theorem mj_min {i : Nat} {x y v : Int32} (hd : decode (mcode Γ.2.1) pc = .ok (.invokestatic i, 3)) (hw : Cond.methodLink (my Γ.2.1).cls i Lib.Math.min.name ∈ TG) (hw2 : Cond.static Lib.Math.min.name ∈ TG) (hw3 : Cond.initialized "java/lang/Math" ∈ TG) (hw4 : Cond.code Lib.Math.min.name Lib.Math.min.code 2 (some .int) ∈ TG) (hfr : 1 ≤ mfr Γ.2.1) (hlo : (st.map fun v => v.category).sum + 13 ≤ mlo Γ.2.1) (hc9 : k ≤ Γ.2.2.1) (hs9 : sl ≤ Γ.2.2.2.1) (hv : (if y < x then y else x) = v) (g : GG Γ k sl (pc + 3) ls (.int v :: st) n h) : GG Γ k sl pc ls (.int y :: .int x :: st) n h := by
  intro p e s m args below meth c H locs lsr C S R L
  subst hv
  have hts : ∀ w ∈ TG, w.before args s = true := C.2.2.2.2.2.1
  exact va_mmin C.1 C.2.1 (C.2.2.2.1.trans L.1.symm) C.2.2.2.2.1 (hts _ hw) (hts _ hw2) (hts _ hw3) (hts _ hw4) hfr hlo hc9 hs9 hd (g p e s m args below meth c H locs lsr C S R L)
theorem mj_objInit {i a : Nat} (hd : decode (mcode Γ.2.1) pc = .ok (.invokespecial i, 3)) (hw : Cond.methodLink (my Γ.2.1).cls i objectInit ∈ TG) (hw2 : Cond.instanceMethod objectInit ∈ TG) (hw3 : Cond.code objectInit ⟨#[0xb1]⟩ 1 none ∈ TG) (hfr : 1 ≤ mfr Γ.2.1) (hlo : (st.map fun v => v.category).sum + 12 ≤ mlo Γ.2.1) (g : GG Γ k sl (pc + 3) ls st n h) : GG Γ k sl pc ls (.ref a :: st) n h := by
  intro p e s m args below meth c H locs lsr C S R L
  have hts : ∀ w ∈ TG, w.before args s = true := C.2.2.2.2.2.1
  refine W.objInit C.1 C.2.1 C.2.2.2.2.1 (hts _ hw) (hts _ hw2) (hts _ hw3) rfl (L.1.trans C.2.2.2.1.symm) rfl hd hfr (by show 2 * 0 + _ + _ ≤ mlo Γ.2.1; omega) ?_
  exact g p e s m args below meth c H locs lsr C S R L
/-- System.arraycopy between two int arrays -/
theorem mj_copyi {i a0 a N0 N1 j0 j1 z : Nat} {f g0 : Nat → Int32} {sp dp x : Int32} (hd : decode (mcode Γ.2.1) pc = .ok (.invokestatic i, 3)) (hw : Cond.methodLink (my Γ.2.1).cls i arraycopyName ∈ TG) (hw2 : Cond.native arraycopyName ∈ TG) (hw3 : Cond.static arraycopyName ∈ TG) (hw4 : Cond.initialized "java/lang/System" ∈ TG)
    (h0 : h a0 = some (cI N0 f)) (h1 : h a = some (cI N1 g0)) (hsp : sp.toInt = (j0 : Int)) (hdp : dp.toInt = (j1 : Int)) (hx : x.toInt = (z : Int)) (hb0 : j0 + z ≤ N0) (hb1 : j1 + z ≤ N1) (hfr : 1 ≤ mfr Γ.2.1) (hlo : (st.map fun v => v.category).sum + (nativeFrameWords "java/lang/System" "arraycopy" 5 + 11) ≤ mlo Γ.2.1)
    (g : GG Γ k sl (pc + 3) ls st n (mup h a (cI N1 (va_cpy f g0 j0 j1 z)))) : GG Γ k sl pc ls (.int x :: .int dp :: .ref a :: .int sp :: .ref a0 :: st) n h := by
  intro p e s m args below meth c H locs lsr C S R L
  have hts : ∀ w ∈ TG, w.before args s = true := C.2.2.2.2.2.1
  have hK : va_K (kD Γ.1) vwCl (ktys Γ.1) s := C.2.2.2.2.2.2.2.2.2.1
  have nn : ∀ (z : Int32) (M : Nat), z.toInt = (M : Int) → ¬ z < 0 := fun z M hz q => by
    have := Int32.lt_iff_toInt_lt.mp q
    have e0 : (0 : Int32).toInt = 0 := rfl
    omega
  have e0 := ix_cl hsp
  have e1 := ix_cl hdp
  have e2 := ix_cl hx
  intro T hT X
  have hc0 : H[a0]? = some (vp_cell (kcy Γ.1 0) (N0, .inl f)) := R.at h0 0 _ rfl
  have hc1 : H[a]? = some (vp_cell (kcy Γ.1 0) (N1, .inl g0)) := R.at h1 0 _ rfl
  obtain ⟨-, k0, hk0, cm0, hkk0⟩ := (hK.2 0 _ rfl).1 N0 (fun j => .int (f j))
  obtain ⟨vm', X', step⟩ := X.arraycopy C.1 C.2.2.2.2.1 (hts _ hw) (hts _ hw2) (hts _ hw3) (hts _ hw4) (src := a0) (dst := a) (cs := vp_cell (kcy Γ.1 0) (N0, .inl f)) (cd := vp_cell (kcy Γ.1 0) (N1, .inl g0)) (srcPos := sp) (destPos := dp) (n := x) (by rw [hT]; exact hc0) (by rw [hT]; exact hc1)
    (fun _ h => by cases h) (fun _ h => by cases h) (fun h => by cases h) (fun h => by cases h) hk0 hk0 hkk0 hkk0 (by simp [kTy, refKind]) (nn sp j0 hsp) (nn dp j1 hdp) (nn x z hx)
    (by rw [hsp, hx]; show ¬ _ > ((arrV (kcy Γ.1 0) N0 (fun j => .int (f j))).slots.size : Int); rw [arrV_size]; omega)
    (by rw [hdp, hx]; show ¬ _ > ((arrV (kcy Γ.1 0) N1 (fun j => .int (g0 j))).slots.size : Int); rw [arrV_size]; omega)
    (fun vm₁ _ i hi => by
      have e : (vp_cell (kcy Γ.1 0) (N0, .inl f)).slots.getD (sp.toNatClampNeg + i) .null = .int (f (sp.toNatClampNeg + i)) := by
        show (arrV (kcy Γ.1 0) N0 (fun j => .int (f j))).slots.getD _ _ = _
        rw [Array.getD_eq_getD_getElem?, arrV_read _ _ (by omega)]
        rfl
      refine ⟨?_, ?_⟩
      · rw [e]
        rfl
      · rw [e]
        exact trivial)
    (g := F0 m pc lsr (.int x :: .int dp :: .ref a :: .int sp :: .ref a0 :: st)) rfl (L.1.trans C.2.2.2.1.symm) (rest := st) rfl (by rw [C.2.1]; exact hd) hfr (by show 2 * 0 + _ + _ ≤ mlo Γ.2.1; omega)
  have e9 : copied (vp_cell (kcy Γ.1 0) (N0, .inl f)) (vp_cell (kcy Γ.1 0) (N1, .inl g0)) sp dp x = vp_cell (kcy Γ.1 0) (N1, .inl (va_cpy f g0 j0 j1 z)) := by
    have := va_copied (fun z => .int z) (kcy Γ.1 0) (kcy Γ.1 0) (sp := sp.toNatClampNeg) (dp := dp.toNatClampNeg) (n := x.toNatClampNeg) (n0 := N0) (n1 := N1) f g0 (by omega)
    rw [e0, e1, e2] at this
    show Cell.storeRun _ dp.toNatClampNeg (Cell.stretch _ sp.toNatClampNeg x.toNatClampNeg) = _
    rw [e0, e1, e2]
    exact this
  rw [e9] at X' step
  have hl : a < H.size := (Array.getElem?_eq_some_iff.mp hc1).1
  have hheap : ((T.setVm vm').setCell a (vp_cell (kcy Γ.1 0) (N1, .inl (va_cpy f g0 j0 j1 z)))).heap = H.setIfInBounds a (vp_cell (kcy Γ.1 0) (N1, .inl (va_cpy f g0 j0 j1 z))) := by rw [← hT]; rfl
  have oq : ∀ q : Nat, q ≠ a → (H.setIfInBounds a (vp_cell (kcy Γ.1 0) (N1, .inl (va_cpy f g0 j0 j1 z))))[q]? = H[q]? := fun q hq => by simp [Array.getElem?_setIfInBounds, Ne.symm hq]
  have hba : kA Γ.1 a := (R.2.2 a _ h1).1
  obtain ⟨t, a1, b1⟩ := g p e s m args below meth c (H.setIfInBounds a (vp_cell (kcy Γ.1 0) (N1, .inl (va_cpy f g0 j0 j1 z)))) _ lsr C ⟨by simp; exact S.1, fun q g1 g2 => by
      rw [oq q (fun e => g2 (by rw [e]; exact hba))]
      exact S.2.1 q g1 g2, fun q hq => by
      rcases List.mem_append.mp hq with h | h
      · exact S.2.2 q h
      · obtain ⟨z, -, hz⟩ := List.mem_map.mp h
        rw [← hz]
        exact hba⟩ (R.set h1 (by simp) oq (show (H.setIfInBounds a _)[a]? = some _ by simp [Array.getElem?_setIfInBounds, hl, mcE])) L _ hheap X'
  exact ⟨t, step t a1, b1⟩
end MJ4
