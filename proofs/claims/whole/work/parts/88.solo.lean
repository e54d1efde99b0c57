theorem RtX.like {g : Nat → Int32} {d : Nat} {R : RS} {l : List Int32} (h : RtX g d R l) : RtX g d (r_like R R) [] := by
  refine ⟨rfl, ⟨h.2.1.1, h.2.1.2⟩, ?_, rfl, rfl, fun i hi => absurd hi (Nat.not_lt_zero _)⟩
  have e : rn R - 1 = l.length + 1 := by
    rw [h.1]
    rfl
  show rx R (rn R - 1) = gd g d 2 ∧ ry R (rn R - 1) = gd g d 3
  rw [e]
  exact h.2.2.1
theorem RIn.like {R : RS} (h : RIn R) (h2 : 2 ≤ rn R) : RIn (r_like R R) := by
  intro k hk
  have hk : k < 2 := hk
  match k, hk with
  | 0, _ => exact h 0 (by omega)
  | 1, _ => exact h (rn R - 1) (by omega)
  | k + 2, h9 => exact absurd h9 (by omega)
theorem SHyp.like {g : Nat → Int32} {d r : Nat} {R : RS} {l : List Int32} {X : RdS} {D : DS} (H : SHyp g d r R l X D) : SHyp g d r (r_like R R) [] X D := by
  obtain ⟨h, hc, hl, hr, x, y, hR, hp⟩ := H
  exact ⟨h.like, fun c hc9 => absurd hc9 List.not_mem_nil, by show 0 ≤ 100 - 10; omega, hr, x, y, hR.like (by rw [h.1]; omega), hp⟩
theorem Sq.none {b : Int32} {s t : SS} (q : Sq b s t) (b1 : 0 ≤ b.toInt) (b2 : b.toInt ≤ 19800) : (t.1 = 1000000000 ↔ s.1 = -1) ∧ (¬ t.1 = 1000000000 → t.1 - b = s.1) := by
  rcases q with ⟨q1, q2⟩ | ⟨q1, q2, q3, -⟩
  · exact ⟨⟨fun _ => q1, fun _ => q2⟩, fun z => absurd q2 z⟩
  · have a3 := (sb_i (x := b) (y := s.1) (by omega) (by omega) (by omega) (by omega)).2
    have n1 : ¬ t.1 = 1000000000 := by
      intro z
      rw [q3] at z
      have z2 := congrArg Int32.toInt z
      rw [a3, big9] at z2
      omega
    have n2 : ¬ s.1 = -1 := by
      intro z
      rw [z] at q1
      exact absurd q1 (by decide)
    refine ⟨⟨fun z => absurd z n1, fun z => absurd z n2⟩, fun _ => ?_⟩
    rw [q3]
    grind
theorem SHyp.solo {g : Nat → Int32} {d r : Nat} {R : RS} {l : List Int32} {X : RdS} {D : DS} (H : SHyp g d r R l X D) : o_none (w_solo g r d) = (s_best (r_like R R) (nI r) X D).1 := by
  have H2 := H.like
  have q := H2.best (Nat.zero_le _)
  have hR := H2.2.2.2.2.2.2.1
  obtain ⟨b1, b2⟩ := len_b hR (show 2 ≤ 2 by omega) (show 2 ≤ 100 by omega)
  obtain ⟨n1, n2⟩ := q.none b1 b2
  have e : r_len (r_like R R) = w_dir g d := by
    rw [H2.1.dir hR]
    show (0 : Int32) + r_step (r_like R R) 0 1 = r_step (r_like R R) 0 1
    exact Int32.zero_add _
  rw [e] at n2
  unfold w_solo o_none
  by_cases c : (f_find g d r []).1 = 1000000000
  · rw [if_pos c, if_pos rfl]
    exact (n1.mp c).symm
  · rw [if_neg c, n2 c, if_neg]
    intro z
    rcases q with ⟨q1, q2⟩ | ⟨q1, q2, -⟩
    · exact c q2
    · rw [z, big9] at q2
      omega
theorem SHyp.extra {g : Nat → Int32} {d r : Nat} {R : RS} {l : List Int32} {X : RdS} {D : DS} (H : SHyp g d r R l X D) (h38 : l.length ≤ 38) (hn : ¬ gr g r 7 = nI d) : o_none (w_extra g r d l) = (s_best R (nI r) X D).1 := by
  have q := H.best h38
  obtain ⟨h, hc, hl, hr, x, y, hR, hp⟩ := id H
  obtain ⟨b1, b2⟩ := len_b hR (by rw [h.1]; omega) (by rw [h.1]; omega)
  obtain ⟨n1, n2⟩ := q.none b1 b2
  rw [← h.len hR hc] at n2
  unfold w_extra o_none
  rw [if_neg hn]
  by_cases c : (f_find g d r l).1 = 1000000000
  · rw [if_pos c, if_pos rfl]
    exact (n1.mp c).symm
  · rw [if_neg c, n2 c, if_neg]
    intro z
    rcases q with ⟨q1, q2⟩ | ⟨q1, q2, -⟩
    · exact c q2
    · rw [z, big9] at q2
      omega
