theorem mm_v (g : Nat → Int32) : ∀ k, (∀ j, (∀ q, q < k → ¬ j = 408 + 8 * q + 6 ∧ ¬ j = 408 + 8 * q + 7) → mm_g g k j = g j) ∧ ∀ q, q < k → gr (mm_g g k) q 6 = (if gr g q 6 = 1 then 0 else gr g q 6) ∧ gr (mm_g g k) q 7 = if gr g q 6 = 1 then -1 else gr g q 7
  | 0 => ⟨fun _ _ => rfl, fun q h => absurd h (by omega)⟩
  | k + 1 => by
    obtain ⟨a, b⟩ := mm_v g k
    have e : mm_g g (k + 1) = if gr (mm_g g k) k 6 = 1 then upd (upd (mm_g g k) (408 + 8 * k + 6) 0) (408 + 8 * k + 7) (-1) else mm_g g k := rfl
    have k6 : gr (mm_g g k) k 6 = gr g k 6 := a _ fun q hq => by omega
    have k7 : gr (mm_g g k) k 7 = gr g k 7 := a _ fun q hq => by omega
    rw [e, k6]
    by_cases z : gr g k 6 = 1
    · rw [if_pos z]
      refine ⟨fun j hj => ?_, fun q hq => ?_⟩
      · have := hj k (by omega)
        rw [ux_n this.2, ux_n this.1]
        exact a j fun q hq => hj q (by omega)
      · by_cases y : q = k
        · subst y
          rw [if_pos z, if_pos z]
          exact ⟨(ux_n (by omega)).trans ux_s, ux_s⟩
        · have := b q (by omega)
          exact ⟨((ux_n (by omega)).trans (ux_n (by omega))).trans this.1, ((ux_n (by omega)).trans (ux_n (by omega))).trans this.2⟩
    · rw [if_neg z]
      refine ⟨fun j hj => a j fun q hq => hj q (by omega), fun q hq => ?_⟩
      by_cases y : q = k
      · subst y
        rw [if_neg z, if_neg z]
        exact ⟨k6, k7⟩
      · exact b q (by omega)
theorem m2_v (g : Nat → Int32) : ∀ k, (∀ j, (∀ d, d < k → ¬ j = 8 + 10 * d + 9) → m2_g g k j = g j) ∧ ∀ d, d < k → gd (m2_g g k) d 9 = if gd g d 8 = 0 then 0 else gd g d 9
  | 0 => ⟨fun _ _ => rfl, fun q h => absurd h (by omega)⟩
  | k + 1 => by
    obtain ⟨a, b⟩ := m2_v g k
    have e : m2_g g (k + 1) = upd (m2_g g k) (8 + 10 * k + 9) (if gd (m2_g g k) k 8 = 0 then 0 else gd (m2_g g k) k 9) := rfl
    have k8 : gd (m2_g g k) k 8 = gd g k 8 := a _ fun q hq => by omega
    have k9 : gd (m2_g g k) k 9 = gd g k 9 := a _ fun q hq => by omega
    rw [e, k8, k9]
    refine ⟨fun j hj => (ux_n (hj k (by omega))).trans (a j fun q hq => hj q (by omega)), fun q hq => ?_⟩
    by_cases y : q = k
    · subst y
      exact ux_s
    · exact (ux_n (by omega)).trans (b q (by omega))
/-- THE FREED BOARD -/
theorem RB.free {B : BS} {g : Nat → Int32} {c : Nat → Int64} (h : RB B g c) : RB (b_free B) (m3_g g (bnr B) (bnd B)) c ∧ ∀ r, r < bnr B → ¬ gr (m3_g g (bnr B) (bnd B)) r 6 = 1 := by
  have hop := fun d hd => h.op (d := d) hd
  obtain ⟨⟨f8, f20, g0, g1, g2, fd, fr⟩, ⟨i1, i2⟩, hx⟩ := h
  obtain ⟨a1, b1⟩ := mm_v g (bnr B)
  obtain ⟨a2, b2⟩ := m2_v (mm_g g (bnr B)) (bnd B)
  have eG : m3_g g (bnr B) (bnd B) = m2_g (mm_g g (bnr B)) (bnd B) := rfl
  rw [← eG] at a2 b2
  generalize m3_g g (bnr B) (bnd B) = G at *
  have lo : ∀ j, j < 408 → (∀ d, d < bnd B → ¬ j = 8 + 10 * d + 9) → G j = g j := fun j hj n => (a2 j n).trans (a1 j fun q _ => by omega)
  have ed : ∀ d f, d < bnd B → f < 9 → gd G d f = gd g d f := fun d f hd hf => lo _ (by omega) fun e _ => by omega
  have e9 : ∀ d, d < bnd B → gd G d 9 = if gd g d 8 = 0 then 0 else gd g d 9 := fun d hd => by
    have q := b2 d hd
    have q8 : gd (mm_g g (bnr B)) d 8 = gd g d 8 := a1 _ fun q _ => by omega
    have q9 : gd (mm_g g (bnr B)) d 9 = gd g d 9 := a1 _ fun q _ => by omega
    rw [q8, q9] at q
    exact q
  have es : ∀ d i, d < bnd B → i < 40 → gs G d i = gs g d i := fun d i hd hi => lo _ (by omega) fun e _ => by omega
  have er : ∀ r f, r < 20 → f < 6 → gr G r f = gr g r f := fun r f hr hf => (a2 _ fun e _ => by omega).trans (a1 _ fun q _ => by omega)
  have e6 : ∀ r, r < bnr B → gr G r 6 = if gr g r 6 = 1 then 0 else gr g r 6 := fun r hr => (a2 _ fun e _ => by omega).trans (b1 r hr).1
  have e7 : ∀ r, r < bnr B → gr G r 7 = if gr g r 6 = 1 then -1 else gr g r 7 := fun r hr => (a2 _ fun e _ => by omega).trans (b1 r hr).2
  have n1 : ∀ r, r < bnr B → ¬ gr G r 6 = 1 := fun r hr z => by
    rw [e6 r hr] at z
    by_cases y : gr g r 6 = 1
    · rw [if_pos y] at z
      exact absurd z (by decide)
    · rw [if_neg y] at z
      exact y z
  have hD : ∀ d, d < bnd B → IvD G d := fun d hd => (i1 d hd).1.c fun f hf => ed d f hd hf
  -- a rider whose driver is d afterwards: d is done, nothing changed
  have wh : ∀ r d, r < bnr B → d < bnd B → gr G r 7 = nI d → gr g r 7 = nI d ∧ gd g d 8 = 1 := fun r d hr hd z => by
    rw [e7 r hr] at z
    by_cases y : gr g r 6 = 1
    · rw [if_pos y] at z
      exact absurd z.symm (nI_ne_m1 (by omega))
    · rw [if_neg y] at z
      rcases (i2 r hr).2 with ⟨-, b⟩ | ⟨e, he, a, ⟨b, -⟩ | ⟨-, b⟩⟩
      · exact absurd (z.symm.trans b) (nI_ne_m1 (by omega))
      · exact absurd b y
      · have : e = d := (nI_inj (by omega) (by omega)).mp (a.symm.trans z)
        subst this
        exact ⟨z, b⟩
  have wh2 : ∀ r d, r < bnr B → d < bnd B → gd g d 8 = 1 → gr g r 7 = nI d → gr G r 7 = nI d := fun r d hr hd o z => by
    rw [e7 r hr, if_neg]
    · exact z
    · intro y
      rcases (i2 r hr).2 with ⟨-, b⟩ | ⟨e, he, a, ⟨-, b⟩ | ⟨b, -⟩⟩
      · exact absurd (z.symm.trans b) (nI_ne_m1 (by omega))
      · have : e = d := (nI_inj (by omega) (by omega)).mp (a.symm.trans z)
        subst this
        rw [b] at o
        exact absurd o (by decide)
      · rw [y] at b
        exact absurd b (by decide)
  have opn : ∀ d, d < bnd B → gd g d 8 = 0 → IvL G d (bnr B) [] := fun d hd o => IvL.nil (hD d hd) (by rw [e9 d hd, if_pos o]) fun r hr z => by
    have := (wh r d z.1 hd z.2).2
    rw [o] at this
    exact absurd this (by decide)
  have kp : ∀ d, d < bnd B → gd g d 8 = 1 → Keep g G d (bnr B) (bnr B) := fun d hd o => ⟨fun f hf n => by
    by_cases z : f = 9
    · subst z
      rw [e9 d hd, if_neg (by rw [o]; decide)]
    · exact ed d f hd (by omega), fun i hi => es d i hd hi, fun r hr _ f hf => er r f (by omega) hf, fun r hr => and_congr_right fun hr => ⟨fun z => (wh r d hr hd z).1, fun z => wh2 r d hr hd o z⟩⟩
  refine ⟨⟨⟨f8, f20, ?_, ?_, ?_, fun d hd => ?_, fun r hr => ?_⟩, ⟨fun d hd => ?_, fun r hr => ?_⟩, fun d hd => ?_⟩, n1⟩
  · exact (lo 0 (by omega) fun e _ => by omega).trans g0
  · exact (lo 1 (by omega) fun e _ => by omega).trans g1
  · exact (lo 2 (by omega) fun e _ => by omega).trans g2
  · have hd : d < bnd B := hd
    rw [ed d 4 hd (by omega), ed d 5 hd (by omega), ed d 6 hd (by omega), ed d 7 hd (by omega), ed d 8 hd (by omega)]
    exact fd d hd
  · have hr : r < bnr B := hr
    obtain ⟨x0, x1, x2, x3, x4, x5, x6, x7, x8⟩ := fr r hr
    have eX : bX (b_free B) r = x_free (bX B r) := if_pos hr
    rw [eX, er r 0 (by omega) (by omega), er r 1 (by omega) (by omega), er r 2 (by omega) (by omega), er r 3 (by omega) (by omega), er r 4 (by omega) (by omega), er r 5 (by omega) (by omega), e6 r hr, e7 r hr]
    unfold x_free
    rw [← x6]
    by_cases z : gr g r 6 = 1
    · rw [if_pos z, if_pos z, if_pos z]
      exact ⟨x0, x1, x2, x3, x4, x5, rfl, rfl, x8⟩
    · rw [if_neg z, if_neg z, if_neg z]
      exact ⟨x0, x1, x2, x3, x4, x5, x6, x7, x8⟩
  · have hd : d < bnd B := hd
    refine ⟨hD d hd, ?_⟩
    rcases (i1 d hd).1.2.2.2.2.2.2 with o | o
    · have L := opn d hd o
      rw [L.1.rlE]
      exact L
    · exact ((kp d hd o).all (i1 d hd).2 (hx d hd)).1
  · have hr : r < bnr B := hr
    refine ⟨(i2 r hr).1.c fun f hf => er r f (by omega) hf, ?_⟩
    unfold IvS
    rw [e6 r hr, e7 r hr]
    by_cases z : gr g r 6 = 1
    · rw [if_pos z, if_pos z]
      exact Or.inl ⟨Or.inl rfl, rfl⟩
    · rw [if_neg z, if_neg z]
      rcases (i2 r hr).2 with a | ⟨d, hd, a, b⟩
      · exact Or.inl a
      · exact Or.inr ⟨d, hd, a, by rw [ed d 8 hd (by omega)]; exact b⟩
  · have hd : d < bnd B := hd
    have eT : bT (b_free B) d = t_free (b_freeX B (bnr B)) d := if_pos hd
    rw [eT]
    unfold t_free
    show RtX G d (if ddo (bD B d) then bT B d else r_like (bT B d) (bT B d)) (rl G d)
    have o8 := hop d hd
    rcases (i1 d hd).1.2.2.2.2.2.2 with o | o
    · have L := opn d hd o
      rw [L.1.rlE]
      rw [o] at o8
      rw [bI_0.mp o8.symm, if_neg (by decide)]
      exact (hx d hd).like.c (fun f hf => ed d f hd (by omega)) fun x m => absurd m List.not_mem_nil
    · rw [o] at o8
      have : ddo (bD B d) = true := by
        cases e : ddo (bD B d)
        · rw [e] at o8
          exact absurd o8 (by decide)
        · rfl
      rw [this, if_pos rfl]
      exact ((kp d hd o).all (i1 d hd).2 (hx d hd)).2
