theorem rof_p : ∀ q, q < 20 → ∀ r, r < 20 → (decide (nI q = nI r) || decide (nI q = 100 + nI r)) = decide (q = r) ∧ (decide (nI (100 + q) = nI r) || decide (nI (100 + q) = 100 + nI r)) = decide (q = r) := by decide +kernel
theorem rof_z : ∀ r, r < 20 → (decide ((-1 : Int32) = nI r) || decide ((-1 : Int32) = 100 + nI r)) = false := by decide +kernel
theorem rof_m1 {R : RS} {j r : Nat} (hr : r < 20) (h : rc R j = -1) : r_of R j (nI r) = false := by
  unfold r_of
  rw [h]
  exact rof_z r hr
theorem getD_mem {l : List Int32} {i : Nat} (hi : i < l.length) : l.getD i 0 ∈ l := by
  rw [List.getD_eq_getElem?_getD, List.getElem?_eq_getElem hi]
  exact List.getElem_mem hi
theorem RtX.rof {g : Nat → Int32} {d : Nat} {R : RS} {l : List Int32} (h : RtX g d R l) (hc : ∀ c, c ∈ l → SCode c) {r i : Nat} (hr : r < 20) (hi : i < l.length) : r_of R (i + 1) (nI r) = ofr r (l.getD i 0) := by
  obtain ⟨hq, e⟩ := (hc _ (getD_mem hi)).num
  unfold r_of
  rw [(h.2.2.2.2.2 i hi).1, ofr_c hr hq e]
  have p := rof_p _ hq r hr
  rcases e with e | e
  · rw [e, (c_of _ hq).2.2.1]
    exact p.1
  · rw [e, (c_of _ hq).2.2.2]
    exact p.2
theorem wo_app {r : Nat} {a : List Int32} {c : Int32} : w_wo (nI r) (a ++ [c]) = if ofr r c then w_wo (nI r) a else w_wo (nI r) a ++ [c] := by
  unfold w_wo ofr
  rw [List.filter_append, List.filter_cons]
  by_cases z : i_rem c = nI r
  · rw [decide_eq_true z, if_neg (by decide), if_pos rfl]
    exact List.append_nil _
  · rw [decide_eq_false z, if_pos (by decide), if_neg (by decide)]
    rfl
theorem RtX.cntw {g : Nat → Int32} {d : Nat} {R : RS} {l : List Int32} (h : RtX g d R l) (hc : ∀ c, c ∈ l → SCode c) {r : Nat} (hr : r < 20) : ∀ k, k ≤ l.length → r_cnt R (nI r) (k + 1) = (w_wo (nI r) (l.take k)).length + 1
  | 0, _ => by
    show (if r_of R 0 (nI r) then r_cnt R (nI r) 0 else r_cnt R (nI r) 0 + 1) = _
    rw [rof_m1 hr h.2.2.2.1]
    rfl
  | k + 1, hk => by
    show (if r_of R (k + 1) (nI r) then r_cnt R (nI r) (k + 1) else r_cnt R (nI r) (k + 1) + 1) = _
    rw [h.rof hc hr (by omega), RtX.cntw h hc hr k (by omega), tk_s l (by omega), wo_app]
    by_cases z : ofr r (l.getD k 0) = true
    · rw [if_pos z, if_pos z]
    · rw [if_neg z, if_neg z, List.length_append]
      rfl
theorem RtX.remP {g : Nat → Int32} {d : Nat} {R : RS} {l : List Int32} (h : RtX g d R l) (hc : ∀ c, c ∈ l → SCode c) {r : Nat} (hr : r < 20) {T : RS} (hT : Rrem R (nI r) T) : ∀ k, k ≤ l.length → ∀ j, j < (w_wo (nI r) (l.take k)).length → st4 T (j + 1) = q4 g ((w_wo (nI r) (l.take k)).getD j 0)
  | 0, _, j, hj => absurd hj (Nat.not_lt_zero _)
  | k + 1, hk, j, hj => by
    have ih := RtX.remP h hc hr hT k (by omega)
    have cn := h.cntw hc hr k (by omega)
    rw [tk_s l (by omega), wo_app] at hj ⊢
    by_cases z : ofr r (l.getD k 0) = true
    · rw [if_pos z] at hj ⊢
      exact ih j hj
    · rw [if_neg z] at hj ⊢
      rw [List.length_append] at hj
      by_cases y : j < (w_wo (nI r) (l.take k)).length
      · rw [gD_l y]
        exact ih j y
      · have e : j = (w_wo (nI r) (l.take k)).length := by
          have : [l.getD k 0].length = 1 := rfl
          omega
        rw [gD_r (by omega), e, Nat.sub_self]
        have q := hT.2 (k + 1) (by rw [h.1]; omega) (by
          rw [h.rof hc hr (by omega)]
          cases e9 : ofr r (l.getD k 0)
          · rfl
          · exact absurd e9 z)
        rw [cn] at q
        rw [q]
        exact h.s4 (by omega)
theorem RtX.rem {g : Nat → Int32} {d : Nat} {R : RS} {l : List Int32} (h : RtX g d R l) (hc : ∀ c, c ∈ l → SCode c) {r : Nat} (hr : r < 20) {T : RS} (hT : Rrem R (nI r) T) : RtX g d T (w_wo (nI r) l) := by
  have cn := h.cntw hc hr l.length (Nat.le_refl _)
  have pp := h.remP hc hr hT l.length (Nat.le_refl _)
  rw [List.take_length] at cn pp
  have z1 := rof_m1 hr h.2.2.2.2.1
  refine RtX.mk4 (t1 := rt R (l.length + 1)) ?_ ((hT.2 0 (by rw [h.1]; omega) (rof_m1 hr h.2.2.2.1)).trans h.e0) ?_ pp
  · rw [hT.1, h.1]
    show (if r_of R (l.length + 1) (nI r) then r_cnt R (nI r) (l.length + 1) else r_cnt R (nI r) (l.length + 1) + 1) = _
    rw [z1, cn]
    rfl
  · have q := hT.2 (l.length + 1) (by rw [h.1]; omega) z1
    rw [cn] at q
    exact q.trans h.e1
theorem w_go_xy {g : Nat → Int32} {d : Nat} {s : WS} {c : Int32} : (w_go g d s c).1 = w_sx g c ∧ (w_go g d s c).2.1 = w_sy g c ∧ (w_go g d s c).2.2.2.2.1 = s.2.2.2.2.1 + w_way g s c := by
  unfold w_go
  by_cases z : c < 100
  · rw [if_pos z]
    exact ⟨rfl, rfl, rfl⟩
  · rw [if_neg z]
    exact ⟨rfl, rfl, rfl⟩
theorem RtX.lwP {g : Nat → Int32} {d : Nat} {R : RS} {l : List Int32} (h : RtX g d R l) (hR : RIn R) (hc : ∀ c, c ∈ l → SCode c) {r : Nat} (hr : r < 20) : ∀ k, k ≤ l.length → (r_lwTo R (nI r) k).1 = (w_run g d (w_wo (nI r) (l.take k))).2.2.2.2.1 ∧ rx R (r_lwTo R (nI r) k).2 = (w_run g d (w_wo (nI r) (l.take k))).1 ∧ ry R (r_lwTo R (nI r) k).2 = (w_run g d (w_wo (nI r) (l.take k))).2.1
  | 0, _ => ⟨rfl, h.2.1.1, h.2.1.2⟩
  | k + 1, hk => by
    obtain ⟨i1, i2, i3⟩ := RtX.lwP h hR hc hr k (by omega)
    obtain ⟨q1, q2, q3, q4⟩ := h.2.2.2.2.2 k (by omega)
    have e : r_lwTo R (nI r) (k + 1) = if r_of R (k + 1) (nI r) then r_lwTo R (nI r) k else ((r_lwTo R (nI r) k).1 + r_step R (r_lwTo R (nI r) k).2 (k + 1), k + 1) := rfl
    rw [e, h.rof hc hr (by omega), tk_s l (by omega), wo_app]
    by_cases z : ofr r (l.getD k 0) = true
    · rw [if_pos z, if_pos z]
      exact ⟨i1, i2, i3⟩
    · rw [if_neg z, if_neg z, w_run_s]
      obtain ⟨w1, w2, w3⟩ := w_go_xy (g := g) (d := d) (s := w_run g d (w_wo (nI r) (l.take k))) (c := l.getD k 0)
      rw [w1, w2, w3]
      refine ⟨?_, q2, q3⟩
      have lk := r_lwTo_le R (nI r) k
      show (r_lwTo R (nI r) k).1 + r_step R (r_lwTo R (nI r) k).2 (k + 1) = _
      rw [hR.k (i := (r_lwTo R (nI r) k).2) (j := k + 1) (by rw [h.1]; omega) (by rw [h.1]; omega)]
      unfold w_way
      rw [i1, i2, i3, q2, q3]
theorem RtX.lw {g : Nat → Int32} {d : Nat} {R : RS} {l : List Int32} (h : RtX g d R l) (hR : RIn R) (hc : ∀ c, c ∈ l → SCode c) {r : Nat} (hr : r < 20) : r_lw R (nI r) = w_len g d (w_wo (nI r) l) := by
  obtain ⟨i1, i2, i3⟩ := h.lwP hR hc hr l.length (Nat.le_refl _)
  rw [List.take_length] at i1 i2 i3
  unfold r_lw
  rw [show rn R - 1 = l.length + 1 by rw [h.1]; rfl]
  have e : r_lwTo R (nI r) (l.length + 1) = if r_of R (l.length + 1) (nI r) then r_lwTo R (nI r) l.length else ((r_lwTo R (nI r) l.length).1 + r_step R (r_lwTo R (nI r) l.length).2 (l.length + 1), l.length + 1) := rfl
  rw [e, rof_m1 hr h.2.2.2.2.1, if_neg (by decide)]
  have lk := r_lwTo_le R (nI r) l.length
  unfold w_len w_end
  show (r_lwTo R (nI r) l.length).1 + r_step R (r_lwTo R (nI r) l.length).2 (l.length + 1) = _
  rw [hR.k (i := (r_lwTo R (nI r) l.length).2) (j := l.length + 1) (by rw [h.1]; omega) (by rw [h.1]; omega)]
  rw [i1, i2, i3, h.2.2.1.1, h.2.2.1.2]
/-- THE MARGINAL DETOUR -/
theorem RtX.marg {g : Nat → Int32} {d : Nat} {R : RS} {l : List Int32} (h : RtX g d R l) (hR : RIn R) (hc : ∀ c, c ∈ l → SCode c) {r : Nat} (hr : r < 20) : r_marg R (nI r) = w_marg g r d l := by
  unfold r_marg w_marg
  rw [h.lw hR hc hr, h.len hR hc]
theorem wo_fq {l : List Int32} (hc : ∀ c, c ∈ l → SCode c) {r q : Nat} (hr : r < 20) (hq : q < 20) : (w_wo (nI r) l).filter (ofr q) = if q = r then [] else l.filter (ofr q) := by
  unfold w_wo
  rw [List.filter_filter]
  by_cases z : q = r
  · subst z
    rw [if_pos rfl]
    refine List.filter_eq_nil_iff.mpr fun c _ => ?_
    show ¬ (decide (i_rem c = nI q) && !decide (i_rem c = nI q)) = true
    cases decide (i_rem c = nI q) <;> decide
  · rw [if_neg z]
    refine List.filter_congr fun c m => ?_
    obtain ⟨ht, e⟩ := (hc c m).num
    have e1 := ofr_c hr ht e
    have e2 := ofr_c hq ht e
    show (ofr q c && !ofr r c) = ofr q c
    rw [e1, e2]
    by_cases y : c_num c = q
    · rw [decide_eq_true y, decide_eq_false (fun x => z (y.symm.trans x))]
      rfl
    · rw [decide_eq_false y]
      rfl
theorem wo_mem {wo : Int32} {l : List Int32} {c : Int32} (h : c ∈ w_wo wo l) : c ∈ l := (List.mem_filter.mp h).1
theorem IvL.cok {g : Nat → Int32} {d nr : Nat} {l : List Int32} (h : IvL g d nr l) (h3 : ∀ r, r < nr → IvR g r) : ∀ c, c ∈ l → Cok g c := fun c m => by
  have hr := h3 _ (h.2.2.code h.1.2.2.2 m).1
  exact ⟨hr.pt, hr.2.2.1⟩
theorem IvM.two {g : Nat → Int32} {d nr : Nat} {l : List Int32} (h : IvM g d nr l) {r : Nat} (hr : r < 20) : l.filter (ofr r) = [nI r, nI (100 + r)] ∨ l.filter (ofr r) = [] := by
  rw [h r hr]
  by_cases q : r < nr ∧ gr g r 7 = nI d
  · rw [if_pos q]
    exact Or.inl rfl
  · rw [if_neg q]
    exact Or.inr rfl
theorem RB.lmarg {B : BS} {g : Nat → Int32} {c : Nat → Int64} (h : RB B g c) {d r : Nat} (hd : d < bnd B) (hr : r < 20) : (0 ≤ (w_len g d (w_wo (nI r) (rl g d))).toInt ∧ (w_len g d (w_wo (nI r) (rl g d))).toInt ≤ (w_len g d (rl g d)).toInt ∧ (w_len g d (rl g d)).toInt ≤ 19998) ∧ w_val g d (w_wo (nI r) (rl g d)) = true := by
  obtain ⟨iD, iL⟩ := h.2.1.1 d hd
  have q := wo_val iD hr (by have := iL.1.2.2.1; omega) (iL.cok fun r hr => (h.2.1.2 r hr).1) (iL.2.2.two hr)
  exact ⟨q.1, q.2 iL.2.1⟩
/-- THE LEAVE -/
theorem RB.leave {B : BS} {g : Nat → Int32} {c : Nat → Int64} (h : RB B g c) {d r : Nat} (hd : d < bnd B) (hr : r < bnr B) (h7 : gr g r 7 = nI d) {st : Int32} (hs : st = 0 ∨ st = 2) {T : RS} (hT : Rrem (bT B d) (nI r) T) : RB (Bout B r d st T) (w_leaveG g r d (rl g d) st) c := by
  have h20 := h.1.2.1
  have h8 := h.1.1
  have iL := (h.2.1.1 d hd).2
  have hc := iL.1.2.2.2
  refine h.mv hd hr (l := w_wo (nI r) (rl g d)) (fun x m => hc x (wo_mem m)) (by have := w_wo_n (nI r) (rl g d); have := iL.1.2.2.1; omega) (h.lmarg hd (by omega)).2 (fun q hq => ?_) ((h.2.2 d hd).rem hc (by omega) hT) (Or.inl ⟨hs, rfl⟩) (Or.inr h7) rfl
  rw [wo_fq hc (by omega) hq]
  by_cases z : q = r
  · subst z
    rw [if_pos rfl, if_pos rfl, if_neg]
    intro y
    exact nI_ne_m1 (a := d) (by omega) y.2.symm
  · rw [if_neg z, if_neg z]
    exact iL.2.2 q hq
theorem RB.marg {B : BS} {g : Nat → Int32} {c : Nat → Int64} (h : RB B g c) {d r : Nat} (hd : d < bnd B) (hr : r < 20) : r_marg (bT B d) (nI r) = w_marg g r d (rl g d) := (h.2.2 d hd).marg (h.rin hd) (h.2.1.1 d hd).2.1.2.2.2 hr
theorem RB.mleave {B : BS} {g : Nat → Int32} {c : Nat → Int64} (h : RB B g c) {d r : Nat} (hd : d < bnd B) (hr : r < 20) {T : RS} (hT : Rrem (bT B d) (nI r) T) : r_len (bT B d) - r_len T = w_marg g r d (rl g d) ∧ 2 ≤ rn T := by
  have hc := (h.2.1.1 d hd).2.1.2.2.2
  have x := h.2.2 d hd
  have y := x.rem hc hr hT
  refine ⟨?_, by rw [y.1]; omega⟩
  unfold w_marg
  obtain ⟨iD, iL⟩ := h.2.1.1 d hd
  have yr : RIn T := y.rin iD.1 iD.2.1 fun c m => (iL.cok (fun r hr => (h.2.1.2 r hr).1) c (wo_mem m)).1
  rw [x.len (h.rin hd) hc, y.len yr fun c m => hc c (wo_mem m)]
