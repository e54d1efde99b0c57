theorem en_OF {o n d : String} {v v' : Value} {t : Nat} {P : Nat → Prop} {U : State} {H : Heap} (h : va_OF o n d v t P U H) (h' : va_OF o n d v' t P U H) : v = v' := by
  obtain ⟨cf, k, i, f, cell, e1, -, e2, -, e3, -⟩ := h
  obtain ⟨cf', k', i', f', cell', g1, -, g2, -, g3, -⟩ := h'
  rw [e1] at g1
  cases g1
  rw [e2] at g2
  cases g2
  rw [e3] at g3
  cases g3
  rfl
theorem en_T {ty : FieldType} {t N N' : Nat} {f f' : Nat → Value} {P : Nat → Prop} {U : State} {H : Heap} (h : va_T ty t N f P U H) (h' : va_T ty t N' f' P U H) (h1 : N < 2147483648) (h2 : N' < 2147483648) : N = N' := by
  obtain ⟨cell, e1, -, -, -, e2, -⟩ := h
  obtain ⟨cell', g1, -, -, -, g2, -⟩ := h'
  rw [e1] at g1
  cases g1
  have e3 : nI N = nI N' := e2.symm.trans g2
  have e4 := congrArg Int32.toInt e3
  rw [nI_toInt h1, nI_toInt h2] at e4
  omega
def Wd (P : Nat → Prop) (U : State) (H : Heap) (a v N : Nat) (w : List Int32) : Prop := va_O "java/lang/String" a P U H ∧ va_OF "java/lang/String" "coder" "B" (.int 0) a P U H ∧ va_OF "java/lang/String" "value" "[B" (.ref v) a P U H ∧ va_T .byte v N (fun j => .int (w.getD j 0)) P U H
theorem Wd.ne {P : Nat → Prop} {U : State} {H : Heap} {a v N a' v' N' : Nat} {w w' : List Int32} (x : Wd P U H a v N w) (y : Wd P U H a' v' N' w') (h1 : N < 2147483648) (h2 : N' < 2147483648) (h3 : N ≠ N') : a ≠ a' := by
  intro e
  subst e
  have e1 := en_OF x.2.2.1 y.2.2.1
  cases e1
  exact h3 (en_T x.2.2.2 y.2.2.2 h1 h2)
theorem en_eqr {args : Array Value} {s : State} {t u : Term} {a : Nat} (h : (Cond.eq t u).before args s = true) (ht : t.eval args s none [] s = some (.ref a)) : u.eval args s none [] s = some (.ref a) := by
  cases hu : u.eval args s none [] s with
  | none => simp [Cond.before, Cond.holds, Cond.value, ht, hu] at h
  | some v => cases v <;> simp_all [Cond.before, Cond.holds, Cond.value]
theorem en_words {args : Array Value} {s : State} {P : Nat → Prop} (hts : TBL args s) (hf : Flt args s) (hA : ∀ a : Nat, a < s.heap.size → ¬ P a) : ∃ ks kv : Nat → Nat, vk_S 3 swL swB ks kv P s s.heap ∧ ∀ q ∈ strW, vk_R q.1 q.2.1 q.2.2.1 (ks q.2.2.2) s := by
  obtain ⟨k0, v0, h0, e0⟩ := en_w0 hf hA
  obtain ⟨k1, v1, h1, e1⟩ := en_w1 hf hA
  obtain ⟨k2, v2, h2, e2⟩ := en_w2 hf hA
  have x0 : Wd P s s.heap (k0 0) (v0 0) 6 (swB.getD 0 []) := h0.1 0 (by omega)
  have x1 : Wd P s s.heap (k1 0) (v1 0) 5 (swB.getD 1 []) := h1.1 0 (by omega)
  have x2 : Wd P s s.heap (k2 0) (v2 0) 7 (swB.getD 2 []) := h2.1 0 (by omega)
  have n01 := x0.ne x1 (by decide) (by decide) (by decide)
  have n02 := x0.ne x2 (by decide) (by decide) (by decide)
  have n12 := x1.ne x2 (by decide) (by decide) (by decide)
  refine ⟨fun i => match i with | 0 => k0 0 | 1 => k1 0 | _ => k2 0, fun i => match i with | 0 => v0 0 | 1 => v1 0 | _ => v2 0, ⟨fun i hi => ?_, fun i j hi hj e => ?_⟩, fun q hq => ?_⟩
  · match i, hi with
    | 0, _ => exact x0
    | 1, _ => exact x1
    | 2, _ => exact x2
    | i + 3, h9 => exact absurd h9 (by omega)
  · match i, j, hi, hj, e with
    | 0, 0, _, _, _ => rfl
    | 0, 1, _, _, e => exact absurd e n01
    | 0, 2, _, _, e => exact absurd e n02
    | 1, 0, _, _, e => exact absurd e.symm n01
    | 1, 1, _, _, _ => rfl
    | 1, 2, _, _, e => exact absurd e n12
    | 2, 0, _, _, e => exact absurd e.symm n02
    | 2, 1, _, _, e => exact absurd e.symm n12
    | 2, 2, _, _, _ => rfl
    | i + 3, _, h9, _, _ => exact absurd h9 (by omega)
    | _, j + 3, _, h9, _ => exact absurd h9 (by omega)
  · unfold strW at hq
    simp only [List.mem_cons, List.not_mem_nil, or_false] at hq
    rcases hq with rfl | rfl | rfl | rfl | rfl | rfl
    · exact vk_R.of (hts _ (tb3 197 (by decide +kernel))) e0
    · exact vk_R.of (hts _ (tb4 41 (by decide +kernel))) e1
    · exact vk_R.of (hts _ (tb4 66 (by decide +kernel))) e2
    · exact vk_R.of (hts _ (tb8 99 (by decide +kernel))) (en_eqr (hf _ (nw9 745 (by decide +kernel))) e0)
    · exact vk_R.of (hts _ (tb8 126 (by decide +kernel))) (en_eqr (hf _ (nw9 755 (by decide +kernel))) e1)
    · exact vk_R.of (hts _ (tb8 131 (by decide +kernel))) (en_eqr (hf _ (nw9 767 (by decide +kernel))) e2)
theorem en_stat {args : Array Value} {s : State} (l : Launch) (hfl : l.flags = flags0) (hts : TBL args s) (hf : Flt args s) (D : va_G) (cy : Nat → ClassId) : ∃ kt ks kv : Nat → Nat, Stat (l, D, cy, s.heap.size, kt, ks, kv) s s.heap := by
  have hA : ∀ a : Nat, a < s.heap.size → ¬ (fun q : Nat => s.heap.size ≤ q) a := fun a h => Nat.not_le.mpr h
  obtain ⟨ks, kv, w1, w2⟩ := en_words hts hf hA
  obtain ⟨t0, y0⟩ := en_sa0 hts hf hA
  obtain ⟨t1, y1⟩ := en_sa1 hts hf hA
  obtain ⟨t2, y2⟩ := en_sa2 hts hf hA
  obtain ⟨t3, y3⟩ := en_sa3 hts hf hA
  obtain ⟨t4, y4⟩ := en_sa4 hts hf hA
  obtain ⟨t5, y5⟩ := en_sa5 hts hf hA
  refine ⟨fun i => match i with | 0 => t0 | 1 => t1 | 2 => t2 | 3 => t3 | 4 => t4 | _ => t5, ks, kv, ?_, en_nest hts, en_str hts hf, en_nc hf, ?_, ?_, fun i hi => ?_, w1, w2, ?_, ?_⟩
  · show l.stackTraces = false
    unfold Launch.stackTraces
    rw [hfl]
    decide +kernel
  · exact vx_Zqof (hts _ (tb2 168 (by decide +kernel))) (hts _ (tb1 13 (by decide +kernel))) (hf _ (nw9 4 (by decide +kernel))) hA
  · exact vx_Zqof (hts _ (tb2 170 (by decide +kernel))) (hts _ (tb1 13 (by decide +kernel))) (hf _ (nw9 5 (by decide +kernel))) hA
  · match i, hi with
    | 0, _ => exact y0
    | 1, _ => exact y1
    | 2, _ => exact y2
    | 3, _ => exact y3
    | 4, _ => exact y4
    | 5, _ => exact y5
    | i + 6, h9 => exact absurd h9 (by omega)
  · exact va_Zof (hts _ (tb3 211 (by decide +kernel))) (hts _ (tb1 23 (by decide +kernel))) (va_eqt (z := 1) (hf _ (nw9 6 (by decide +kernel)))) hA
  · exact va_Zqof (hts _ (tb3 227 (by decide +kernel))) (hts _ (tb1 25 (by decide +kernel))) (hf _ (nw9 7 (by decide +kernel))) hA
theorem en_inst {ci : Nat} {r : vw_C} (h : vwCl[ci]? = some r) : Cond.instantiable r.1 r.2.2 ∈ lw_tbl := by
  match ci, h with
  | 0, h => cases h; exact (tb1 36 (by decide +kernel))
  | 1, h => cases h; exact (tb1 45 (by decide +kernel))
  | 2, h => cases h; exact (tb1 219 (by decide +kernel))
  | 3, h => cases h; exact (tb2 12 (by decide +kernel))
  | 4, h => cases h; exact (tb2 0 (by decide +kernel))
  | 5, h => cases h; exact (tb1 133 (by decide +kernel))
  | 6, h => cases h; exact (tb1 51 (by decide +kernel))
  | 7, h => cases h; exact (tb2 61 (by decide +kernel))
  | 8, h => cases h; exact (tb2 46 (by decide +kernel))
  | 9, h => cases h; exact (tb2 25 (by decide +kernel))
  | 10, h => cases h; exact (tb1 28 (by decide +kernel))
  | 11, h => cases h; exact (tb6 50 (by decide +kernel))
  | i + 12, h => simp [vwCl] at h
theorem en_cls {args : Array Value} {s : State} (hts : TBL args s) : ∃ D : va_G, ∀ (k : Nat) (q : vw_C), vwCl[k]? = some q → u_Kn s q.1 q.2.1 q.2.2 (D.1 k) (D.2 k) := by
  have h1 : ∀ k : Nat, ∃ d : ClassId × (Nat → Nat), ∀ q : vw_C, vwCl[k]? = some q → u_Kn s q.1 q.2.1 q.2.2 d.1 d.2 := by
    intro k
    cases h : vwCl[k]? with
    | none => exact ⟨(default, fun _ => 0), fun q e => by cases e⟩
    | some q =>
      obtain ⟨cC, iS, h2⟩ := u_known (C := q.1) (T := q.2.1) (N := q.2.2) (n := q.2.2) (ws := TG) (args := args) (fun w hw => hts w (List.mem_filter.mp hw).1) (uwC h) (hts _ (en_inst h))
      exact ⟨(cC, iS), fun q' e => by cases e; exact h2⟩
  obtain ⟨f, hf⟩ := Classical.axiomOfChoice h1
  exact ⟨(fun k => (f k).1, fun k => (f k).2), hf⟩
theorem en_prim {args : Array Value} {s : State} {ty : FieldType} (h : (Cond.arrayClass ty).before args s = true) (hp : ∀ C, ty ≠ .object C) : ∃ cA, ArrOfT s cA ty ∧ va_RA s cA ty := by
  obtain ⟨cA, kA, comp, h1, h2, h3⟩ := Cond.arrayClass_spec h
  refine ⟨cA, fun n z => ⟨fun k h => (by cases h), kA, h2, comp, h3⟩, ?_⟩
  cases ty <;> first | exact h1 | exact absurd rfl (hp _)
theorem en_objA {args : Array Value} {s : State} {C : String} (h : (Cond.arrayOver (.object C)).before args s = true) : ∃ cA, ArrOfT s cA (.object C) ∧ va_RA s cA (.object C) := by
  obtain ⟨comp, cA, kA, h1, h2, h3, h4, h5⟩ := Cond.arrayOver_spec h
  exact ⟨cA, fun n z => ⟨fun k h => (by cases h), kA, h3, comp, h4⟩, kA, comp, h3, h4, h1, h5⟩
theorem en_arrA {args : Array Value} {s : State} {t : FieldType} (h : (Cond.arrayOver (.array t)).before args s = true) : ∃ cA, ArrOfT s cA (.array t) ∧ va_RA s cA (.array t) := by
  obtain ⟨comp, cA, kA, h1, h2, h3, h4, h5⟩ := arrayOverA_spec h
  exact ⟨cA, fun n z => ⟨fun k h => (by cases h), kA, h3, comp, h4⟩, h5⟩
theorem en_arr {args : Array Value} {s : State} (hts : TBL args s) : ∃ cy : Nat → ClassId, ∀ k, k < 7 → ArrOfT s (cy k) (kTy k) ∧ va_RA s (cy k) (kTy k) := by
  have h1 : ∀ k : Nat, ∃ c : ClassId, k < 7 → ArrOfT s c (kTy k) ∧ va_RA s c (kTy k) := by
    intro k
    match k with
    | 0 =>
      obtain ⟨c, h⟩ := en_prim (ty := .int) (hts _ (tb1 83 (by decide +kernel))) (fun C e => by cases e)
      exact ⟨c, fun _ => h⟩
    | 1 =>
      obtain ⟨c, h⟩ := en_prim (ty := .long) (hts _ (tb6 152 (by decide +kernel))) (fun C e => by cases e)
      exact ⟨c, fun _ => h⟩
    | 2 =>
      obtain ⟨c, h⟩ := en_prim (ty := .boolean) (hts _ (tb6 153 (by decide +kernel))) (fun C e => by cases e)
      exact ⟨c, fun _ => h⟩
    | 3 =>
      obtain ⟨c, h⟩ := en_objA (C := "Carpool$Board") (hts _ (tb1 217 (by decide +kernel)))
      exact ⟨c, fun _ => h⟩
    | 4 =>
      obtain ⟨c, h⟩ := en_objA (C := "Carpool$Driver") (hts _ (tb1 42 (by decide +kernel)))
      exact ⟨c, fun _ => h⟩
    | 5 =>
      obtain ⟨c, h⟩ := en_objA (C := "Carpool$Rider") (hts _ (tb1 44 (by decide +kernel)))
      exact ⟨c, fun _ => h⟩
    | 6 =>
      obtain ⟨c, h⟩ := en_arrA (t := .int) (hts _ (tb2 6 (by decide +kernel)))
      exact ⟨c, fun _ => h⟩
    | k + 7 => exact ⟨default, fun h9 => absurd h9 (by omega)⟩
  obtain ⟨f, hf⟩ := Classical.axiomOfChoice h1
  exact ⟨f, hf⟩
/-- what the law's run owes: an invariant that every call keeps, and that holds at the loop's first head -/
def Owed : Prop := ∀ (K : KX) (c : Nat), ∃ J : Nat → MH → Prop, AllS K c (c + 176) (c + 192) J ∧ ∀ (h1 h3 : MH) (B : BS), BZ B → Cp h1 (c + 176) c (p_new B) → Md (mup h1 (c + 176) (cO 11 [.null, .null, .null, .null, .null, .null, .null, .int 0, .null, .int 0, .int 0, .int 0, .null, .int 0, .int 0, .int 0, .null, .null, .null, .null, .int 0, .null, .int 0, .int 0, .int 0, .int 0, .int 0, .int 0, .int 0, .int 0, .long 0, .null])) (c + 176) M0 h3 → J (c + 193) (mup h3 (c + 192) (cJ 1 (fun _ => 0)))
set_option maxRecDepth 100000 in
set_option maxHeartbeats 4000000 in
theorem start_of (HO : Owed) {p : Program} {e : Env} {s : State} {m : MethodId} {below : List Frame} {meth : Method} {c : Jvm.ClassFile.Code} (l : Launch) (hflags : l.flags = flags0) {b L : Nat} {xs : Nat → Int32} (hL : L ≤ 3584) (C0 : lw_At p s m meth c b L xs) : W p l e room_1 s m #[Value.ref b] below meth c s.heap [] 0 0 (lw_Z below #[Value.ref b] s) (entryFrame m ([Value.ref b] : List Value).toArray 8) := by
  obtain ⟨hx, hb, hr, hml, hown, hts, hX, hbl, hlocks, hgv⟩ := C0
  have hf : Flt #[Value.ref b] s := flat_of_before _ hgv
  obtain ⟨D, hD⟩ := en_cls hts
  obtain ⟨cy, hcy⟩ := en_arr hts
  obtain ⟨kt, ks, kv, hSt⟩ := en_stat l hflags hts hf D cy
  have hK : va_K (kD (l, D, cy, s.heap.size, kt, ks, kv)) vwCl (ktys (l, D, cy, s.heap.size, kt, ks, kv)) s := by
    refine ⟨hD, fun k q hq => ?_⟩
    match k, hq with
    | 0, hq => cases hq; exact hcy 0 (by omega)
    | 1, hq => cases hq; exact hcy 1 (by omega)
    | 2, hq => cases hq; exact hcy 2 (by omega)
    | 3, hq => cases hq; exact hcy 3 (by omega)
    | 4, hq => cases hq; exact hcy 4 (by omega)
    | 5, hq => cases hq; exact hcy 5 (by omega)
    | 6, hq => cases hq; exact hcy 6 (by omega)
    | k + 7, hq => simp [ktys] at hq
  obtain ⟨J, HA, HJ⟩ := HO (l, D, cy, s.heap.size, kt, ks, kv) s.heap.size
  have g := lw_begin (b := b) (xs := xs) hL HA HJ
  have hl := lv_entry ([.ref b]) (n := 8) (Nat.le_of_ble_eq_true rfl)
  rw [lg_entry_eq]
  have g1 := g p e s m #[Value.ref b] below meth c s.heap [] _ ⟨hx, hb, hr, hml, hown, fun w hw => hts w (List.mem_filter.mp hw).1, hlocks, trivial, trivial, hK, hSt⟩ ⟨hX, hbl, Nat.not_le.mpr hbl⟩ va_S.rf ⟨rfl, Nat.le_refl _, fun a c9 e9 => by cases e9⟩ hl
  intro T hT X
  obtain ⟨t, a1, o, b1, b2, b3⟩ := g1 T hT X
  rcases b3 with ⟨⟨v, n', h', e1, hQ, hR, hF⟩, L9, hFE, hfree⟩ | ⟨q, e1, E, ce, L9, ⟨n', h', hQ, -⟩, -⟩
  · cases hQ
    refine ⟨t, a1, o, b1, b2, e1, hFE.1, hFE.2.1, ?_⟩
    obtain ⟨h1, h2, h3, h4, h5, h6⟩ := hFE.2.2
    refine ⟨h1, h2, h3, h4, h5, fun a c9 hc => ?_⟩
    obtain ⟨c', q1, q2, q3, q4⟩ := h6 a c9 hc
    refine ⟨c', q1, q2, q3, fun i _ => q4 i (fun hm => ?_)⟩
    have hb9 : s.heap.size ≤ a := hfree _ hm
    have ha9 : a < s.heap.size := (Array.getElem?_eq_some_iff.mp hc).1
    exact absurd ha9 (Nat.not_lt.mpr hb9)
  · cases hQ
