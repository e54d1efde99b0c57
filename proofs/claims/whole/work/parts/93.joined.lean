theorem RtX.req {g : Nat → Int32} {d : Nat} {R R' : RS} {l : List Int32} (h : RtX g d R l) (e : Req R R') : RtX g d R' l := by
  have h0 := h.1
  refine RtX.mk4 (by rw [e.1]; exact h0) ((e.2 0 (by omega)).trans h.e0) ((e.2 (l.length + 1) (by omega)).trans h.e1) fun i hi => ?_
  rw [e.2 (i + 1) (by omega)]
  exact h.s4 hi
theorem RB.st {B : BS} {g : Nat → Int32} {c : Nat → Int64} (h : RB B g c) {r : Nat} (hr : r < bnr B) : gr g r 6 = qst (bX B r) ∧ gr g r 7 = qdr (bX B r) ∧ c (8 + r) = qcr (bX B r) := (h.1.2.2.2.2.2.2 r hr).2.2.2.2.2.2
theorem RB.op {B : BS} {g : Nat → Int32} {c : Nat → Int64} (h : RB B g c) {d : Nat} (hd : d < bnd B) : gd g d 8 = bI (ddo (bD B d)) := (h.1.2.2.2.2.2.1 d hd).2.2.2.2.1
theorem RB.noin {B : BS} {g : Nat → Int32} {c : Nat → Int64} (h : RB B g c) {r : Nat} (hr : r < bnr B) (h0 : gr g r 6 = 0) : gr g r 7 = -1 := by
  rcases (h.2.1.2 r hr).2 with ⟨-, b⟩ | ⟨d, hd, a, ⟨b, -⟩ | ⟨b, -⟩⟩
  · exact b
  · rw [h0] at b
    exact absurd b (by decide)
  · rw [h0] at b
    exact absurd b (by decide)
/-- THE EXTRA of a rider who isn't in the route -/
theorem RB.ext {B : BS} {g : Nat → Int32} {c : Nat → Int64} (h : RB B g c) {d r : Nat} (hd : d < bnd B) (hr : r < bnr B) (hn : ¬ gr g r 7 = nI d) : ((s_best (bT B d) (nI r) (bX B r) (bD B d)).1 = -1 ∧ w_extra g r d (rl g d) = 1000000000) ∨ (0 ≤ (s_best (bT B d) (nI r) (bX B r) (bD B d)).1.toInt ∧ (s_best (bT B d) (nI r) (bX B r) (bD B d)).1.toInt ≤ 1000 ∧ w_extra g r d (rl g d) = (s_best (bT B d) (nI r) (bX B r) (bD B d)).1 ∧ (s_best (bT B d) (nI r) (bX B r) (bD B d)).2 = (f_find g d r (rl g d)).2 ∧ ¬ (f_find g d r (rl g d)).1 = 1000000000) := by
  have H := h.shyp hd hr
  have h38 := (h.2.1.1 d hd).2.l38 h.1.2.1 hr hn
  have q := H.best h38
  have hx := h.2.2 d hd
  have h0 := hx.1
  obtain ⟨b1, b2⟩ := len_b (Iv.rin (h.2.1.1 d hd).1 (h.2.1.1 d hd).2 (fun q hq => (h.2.1.2 q hq).1) hx) (by omega) (by omega)
  obtain ⟨n1, n2⟩ := q.none b1 b2
  rw [← hx.len (h.rin hd) (h.2.1.1 d hd).2.1.2.2.2] at n2
  unfold w_extra
  rw [if_neg hn]
  rcases q with ⟨q1, q2⟩ | ⟨q1, q2, q3, q4⟩
  · exact Or.inl ⟨q1, by rw [if_pos q2]⟩
  · have hs : ¬ (s_best (bT B d) (nI r) (bX B r) (bD B d)).1 = -1 := by
      intro z
      rw [z] at q1
      exact absurd q1 (by decide)
    have ht : ¬ (f_find g d r (rl g d)).1 = 1000000000 := fun z => hs (n1.mp z)
    exact Or.inr ⟨q1, q2, by rw [if_neg ht]; exact n2 ht, q4, ht⟩
theorem big_ne {x : Int32} (h : x.toInt ≤ 1000) : ¬ x = 1000000000 := fun z => by
  rw [z, big9] at h
  omega
theorem m1_ne {x : Int32} (h : 0 ≤ x.toInt) : ¬ x = -1 := fun z => by
  rw [z] at h
  exact absurd h (by decide)
theorem RB.extn {B : BS} {g : Nat → Int32} {c : Nat → Int64} (h : RB B g c) {d r : Nat} (hd : d < bnd B) (hr : r < bnr B) (hn : ¬ gr g r 7 = nI d) : w_extra g r d (rl g d) = 1000000000 ↔ (s_best (bT B d) (nI r) (bX B r) (bD B d)).1 = -1 := by
  rcases h.ext hd hr hn with ⟨a, b⟩ | ⟨a, b, e, -⟩
  · exact ⟨fun _ => a, fun _ => b⟩
  · exact ⟨fun z => absurd (e.symm.trans z) (big_ne b), fun z => absurd z (m1_ne a)⟩
theorem RB.extv {B : BS} {g : Nat → Int32} {c : Nat → Int64} (h : RB B g c) {d r : Nat} (hd : d < bnd B) (hr : r < bnr B) (hn : ¬ gr g r 7 = nI d) (hs : ¬ (s_best (bT B d) (nI r) (bX B r) (bD B d)).1 = -1) : w_extra g r d (rl g d) = (s_best (bT B d) (nI r) (bX B r) (bD B d)).1 := by
  rcases h.ext hd hr hn with ⟨a, b⟩ | ⟨a, b, e, -⟩
  · exact absurd a hs
  · exact e
/-- THE JOIN -/
theorem RB.join {B B' : BS} {g : Nat → Int32} {c : Nat → Int64} (h : RB B g c) {d r : Nat} (hd : d < bnd B) (hr : r < bnr B) (h0 : gr g r 6 = 0) (hop : gd g d 8 = 0) (hB : Bput B r d B') : RB B' (w_joinG g r d (rl g d)) c := by
  have h7 := h.noin hr h0
  have h20 := h.1.2.1
  have h8 := h.1.1
  have hn : ¬ gr g r 7 = nI d := fun z => nI_ne_m1 (a := d) (by omega) (by rw [← z]; exact h7)
  unfold Bput at hB
  unfold w_joinG
  rcases h.ext hd hr hn with ⟨q1, q2⟩ | ⟨q1, q2, q3, q4, q5⟩
  · rw [if_pos q1] at hB
    subst hB
    rw [if_pos q2]
    exact h
  · rw [if_neg (m1_ne q1)] at hB
    obtain ⟨T, hT, rfl⟩ := hB
    rw [if_neg (by rw [q3]; exact big_ne q2)]
    rw [q4] at hT
    have iL := (h.2.1.1 d hd).2
    have h38 := iL.l38 h20 hr hn
    have hx := h.2.2 d hd
    obtain ⟨x0, x1, x2, x3, x4, x5, -⟩ := h.1.2.2.2.2.2.2 r hr
    rcases FV.find g d r (rl g d) with z | ⟨v1, v2, v3⟩
    · exact absurd z q5
    have hc := iL.1.2.2.2
    have e0 : (rl g d).filter (ofr r) = [] := by rw [iL.2.2 r (by omega), if_neg fun z => hn z.2]
    refine h.mv hd hr (l := w_ins (rl g d) r (f_find g d r (rl g d)).2.1 (f_find g d r (rl g d)).2.2) (w_lay_c _ (by omega) _ _ hc _) (by rw [w_ins_len _ _ _ _ v2 v3]; omega) v1 (fun q hq => ?_) ((hx.ins (by omega) x0 x1 x2 x3 x4 x5 v2 v3).req hT) (Or.inr ⟨rfl, rfl, hop⟩) (Or.inl h7) rfl
    by_cases z : q = r
    · subst z
      rw [w_ins_r hq v2 v3 e0, if_pos ⟨hr, by rw [if_pos rfl]⟩]
    · rw [w_ins_q (by omega) hq z, iL.2.2 q hq, if_neg (c := q = r) z]
