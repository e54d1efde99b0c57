theorem ic_pos (P : Nat → Bool) {q : Nat} (h : P q = true) : ∀ k, q < k → 0 < i_count P k
  | 0, z => absurd z (by omega)
  | k + 1, z => by
    show 0 < i_count P k + (if P k then 1 else 0)
    by_cases e : q = k
    · subst e
      rw [if_pos h]
      omega
    · have := ic_pos P h k (by omega)
      omega
theorem ic_c {P Q : Nat → Bool} : ∀ k, (∀ q, q < k → P q = Q q) → i_count P k = i_count Q k
  | 0, _ => rfl
  | k + 1, e => by
    show i_count P k + (if P k then 1 else 0) = i_count Q k + (if Q k then 1 else 0)
    rw [ic_c k fun q hq => e q (by omega), e k (by omega)]
theorem ic_drop {P Q : Nat → Bool} {r : Nat} (e : ∀ q, ¬ q = r → P q = Q q) (hp : P r = false) (hq : Q r = true) : ∀ k, r < k → i_count P k + 1 = i_count Q k
  | 0, z => absurd z (by omega)
  | k + 1, z => by
    show i_count P k + (if P k then 1 else 0) + 1 = i_count Q k + (if Q k then 1 else 0)
    by_cases w : r = k
    · subst w
      rw [hp, hq, if_neg (by decide), if_pos rfl, ic_c r fun q hq => e q (by omega)]
    · have := ic_drop e hp hq k (by omega)
      rw [e k (fun y => w y.symm)]
      omega
def is0 (B : BS) (q : Nat) : Bool := decide (qst (bX B q) = 0)
theorem Bput.put {B B' : BS} {r d : Nat} (h : Bput B r d B') (hv : ¬ (s_best (bT B d) (nI r) (bX B r) (bD B d)).1 = -1) : ∃ T, B' = b_setX (b_setT B d T) r (x_put (bX B r) d) := by
  unfold Bput at h
  rw [if_neg hv] at h
  obtain ⟨T, -, e⟩ := h
  exact ⟨T, e⟩
theorem inr_best {B : BS} {r d : Nat} (h : ¬ s_inr B r d = -1) : s_inr B r d = (s_best (bT B d) (nI r) (bX B r) (bD B d)).1 := by
  unfold s_inr at h ⊢
  by_cases q : i_bit (r_mask (bT B d)) (nI r) = true
  · rw [if_pos q] at h
    exact absurd rfl h
  · rw [if_neg q]
theorem RB.fill {c : Nat → Int64} {d : Nat} : ∀ (f : Nat) {B B' : BS} {g : Nat → Int32} {k : Nat}, RB B g c → d < bnd B → i_count (is0 B) (bnr B) ≤ f → FillR d f B k B' → FillT c d (bnr B) f g ∧ (w_fill c d (bnr B) f g).1 = k ∧ RB B' (w_fill c d (bnr B) f g).2 c
  | 0, B, B', g, k, h, hd, hf, q => by
    obtain ⟨rfl, rfl⟩ := q
    obtain ⟨e, w⟩ := h.repl hd
    refine ⟨⟨(h.2.1.1 d hd).2.1, h.1.2.2.2.2.1, ?_⟩, rfl, h⟩
    rcases w with w | ⟨q, q0, -, q2, -⟩
    · rw [← e]
      exact w
    · have := ic_pos (is0 B') (q := q) (decide_eq_true q2) _ q0
      omega
  | f + 1, B, B', g, k, h, hd, hf, q => by
    obtain ⟨e, w⟩ := h.repl hd
    have ok := (h.2.1.1 d hd).2.1
    have g2 := h.1.2.2.2.2.1
    have h20 := h.1.2.1
    rcases q with ⟨q0, rfl, rfl⟩ | ⟨r, B1, k1, r0, r1, hp, hr, rfl⟩
    · rw [e] at q0
      refine ⟨⟨ok, g2, Or.inl q0⟩, ?_, ?_⟩
      · show (if w_repl g c d (bnr B') = -1 then ((0 : Nat), g) else _).1 = 0
        rw [if_pos q0]
      · show RB B' (if w_repl g c d (bnr B') = -1 then ((0 : Nat), g) else _).2 c
        rw [if_pos q0]
        exact h
    · have nm := nI_ne_m1 (a := r) (by omega)
      rcases w with w | ⟨q, q0, q1, q2, q3, q4⟩
      · exact absurd (r1.symm.trans w) nm
      · have eq : q = r := (nI_inj (by omega) (by omega)).mp (q1.symm.trans r1)
        subst eq
        have st0 : gr g q 6 = 0 := (h.st r0).1.trans q2
        have hop : gd g d 8 = 0 := by
          rw [h.op hd, q3]
          rfl
        have er : w_repl g c d (bnr B) = nI q := e.symm.trans r1
        have en : i_nat (w_repl g c d (bnr B)) = q := by
          rw [er]
          exact i_nat_nI (by omega)
        have h7 := h.noin r0 st0
        have hn : ¬ gr g q 7 = nI d := fun z => nI_ne_m1 (a := d) (by have := h.1.1; omega) (by rw [← z]; exact h7)
        have h38 := (h.2.1.1 d hd).2.l38 h20 r0 hn
        have hj := h.join hd r0 st0 hop hp
        obtain ⟨T, eB⟩ := hp.put (by rw [← inr_best q4]; exact q4)
        have e1 : bnr B1 = bnr B := by rw [eB]; rfl
        have e2 : bnd B1 = bnd B := by rw [eB]; rfl
        have eX : ∀ p, bX B1 p = vf_upd (bX B) q (x_put (bX B q) d) p := fun p => by rw [eB]; rfl
        have cn : i_count (is0 B1) (bnr B1) + 1 = i_count (is0 B) (bnr B) := by
          rw [e1]
          refine ic_drop (r := q) (fun p ne => ?_) ?_ (decide_eq_true q2) _ r0
          · unfold is0
            rw [eX, vf_n _ _ ne]
          · unfold is0
            rw [eX, vf_s]
            rfl
        obtain ⟨i1, i2, i3⟩ := RB.fill f hj (by omega) (by omega) hr
        rw [e1] at i1 i2 i3
        have nm2 : ¬ w_repl g c d (bnr B) = -1 := by
          rw [er]
          exact nm
        refine ⟨⟨ok, g2, Or.inr ⟨h38, by rw [en]; exact i1⟩⟩, ?_, ?_⟩
        · show (if w_repl g c d (bnr B) = -1 then ((0 : Nat), g) else ((w_fill c d (bnr B) f (w_joinG g (i_nat (w_repl g c d (bnr B))) d (rl g d))).1 + 1, (w_fill c d (bnr B) f (w_joinG g (i_nat (w_repl g c d (bnr B))) d (rl g d))).2)).1 = _
          rw [if_neg nm2, en, i2]
        · show RB B' (if w_repl g c d (bnr B) = -1 then ((0 : Nat), g) else ((w_fill c d (bnr B) f (w_joinG g (i_nat (w_repl g c d (bnr B))) d (rl g d))).1 + 1, (w_fill c d (bnr B) f (w_joinG g (i_nat (w_repl g c d (bnr B))) d (rl g d))).2)).2 c
          rw [if_neg nm2, en]
          exact i3
theorem Bput.ex (B : BS) (r d : Nat) : ∃ B1, Bput B r d B1 ∧ bnd B1 = bnd B := by
  unfold Bput
  by_cases z : (s_best (bT B d) (nI r) (bX B r) (bD B d)).1 = -1
  · exact ⟨B, by rw [if_pos z], rfl⟩
  · exact ⟨b_setX (b_setT B d (r_ins (bT B d) (nI r) (bX B r) (s_best (bT B d) (nI r) (bX B r) (bD B d)).2.1 (s_best (bT B d) (nI r) (bX B r) (bD B d)).2.2)) r (x_put (bX B r) d), by rw [if_neg z]; exact ⟨_, ⟨rfl, fun _ _ => rfl⟩, rfl⟩, rfl⟩
theorem RB.fillEx {c : Nat → Int64} {d : Nat} : ∀ (f : Nat) {B : BS} {g : Nat → Int32}, RB B g c → d < bnd B → ∃ k B', FillR d f B k B'
  | 0, B, g, _, _ => ⟨0, B, rfl, rfl⟩
  | f + 1, B, g, h, hd => by
    obtain ⟨-, w⟩ := h.repl hd
    rcases w with w | ⟨q, q0, q1, q2, q3, q4⟩
    · exact ⟨0, B, Or.inl ⟨w, rfl, rfl⟩⟩
    · obtain ⟨B1, p1, p2⟩ := Bput.ex B q d
      have hop : gd g d 8 = 0 := by
        rw [h.op hd, q3]
        rfl
      obtain ⟨k, B', hF⟩ := RB.fillEx (d := d) f (h.join hd q0 ((h.st q0).1.trans q2) hop p1) (by omega)
      exact ⟨k + 1, B', Or.inr ⟨q, B1, k, q0, q1, p1, hF, rfl⟩⟩
theorem RB.nosh {B : BS} {g : Nat → Int32} {c : Nat → Int64} (h : RB B g c) {d r : Nat} (hd : d < bnd B) (hr : r < bnr B) (h7 : gr g r 7 = nI d) {T : RS} (hT : Rrem (bT B d) (nI r) T) : RB (b_nosh B r d T) (w_leaveG g r d (rl g d) 2) (vp_updL (vp_updL c (8 + r) (c (8 + r) - (g 0).toInt64)) d (vp_updL c (8 + r) (c (8 + r) - (g 0).toInt64) d + (g 0).toInt64)) := by
  have h8 := h.1.1
  have h1 := h.leave hd hr h7 (st := 2) (Or.inr rfl) hT
  have h2 := h1.crR hr (v := qcr (bX B r) - (bpe B).toInt64) (Y := x_cr (x_out (bX B r) 2) (qcr (bX B r) - (bpe B).toInt64)) (by rw [Bout_X])
  have h3 := h2.crD hd (v := dcr (bD B d) + (bpe B).toInt64) (Y := d_cr (bD B d) (dcr (bD B d) + (bpe B).toInt64)) rfl
  have e0 := h.1.2.2.1
  have e1 := (h.st hr).2.2
  have e2 := (h.1.2.2.2.2.2.1 d hd).2.2.2.2.2
  rw [ul_n (show ¬ d = 8 + r by omega), e0, e1, e2]
  exact h3
theorem RB.asg {B : BS} {g : Nat → Int32} {c : Nat → Int64} (h : RB B g c) {r : Nat} (hr : r < bnr B) (h1 : qst (bX B r) = 1) : ∃ d, d < bnd B ∧ gr g r 7 = nI d ∧ qdr (bX B r) = nI d := by
  obtain ⟨s1, s2, -⟩ := h.st hr
  rcases (h.2.1.2 r hr).2 with ⟨a | a, -⟩ | ⟨d, hd, a, -⟩
  · rw [s1, h1] at a
    exact absurd a (by decide)
  · rw [s1, h1] at a
    exact absurd a (by decide)
  · exact ⟨d, hd, a, by rw [← s2]; exact a⟩
theorem RB.drv {B : BS} {g : Nat → Int32} {c : Nat → Int64} (h : RB B g c) {r : Nat} (hr : r < bnr B) : (gr g r 7 = -1 ∧ qdr (bX B r) = -1) ∨ ∃ d, d < bnd B ∧ gr g r 7 = nI d ∧ qdr (bX B r) = nI d := by
  obtain ⟨s1, s2, -⟩ := h.st hr
  rcases (h.2.1.2 r hr).2 with ⟨-, a⟩ | ⟨d, hd, a, -⟩
  · exact Or.inl ⟨a, by rw [← s2]; exact a⟩
  · exact Or.inr ⟨d, hd, a, by rw [← s2]; exact a⟩
theorem RB.rok {B : BS} {g : Nat → Int32} {c : Nat → Int64} (h : RB B g c) {d : Nat} (hd : d < bnd B) : Rok g d (rl g d) := (h.2.1.1 d hd).2.1
theorem RB.tok {B : BS} {g : Nat → Int32} {c : Nat → Int64} (h : RB B g c) : Tok B := fun d hd => by
  rw [(h.2.2 d hd).1]
  omega
theorem trip_st {b : Bool} {n : Nat} {x : Int32} (hs : ¬ (b = false ∧ n = 0)) (h1 : x = nI n) (h2 : n ≤ 20) : b = true ∨ 0 < x := by
  cases b
  · refine Or.inr ?_
    rw [h1, Int32.lt_iff_toInt_lt, ixn (by omega)]
    have e0 : (0 : Int32).toInt = 0 := rfl
    have : ¬ n = 0 := fun z => hs ⟨rfl, z⟩
    omega
  · exact Or.inl rfl
theorem trip_sr {b : Bool} {n : Nat} {x y : Int32} (hs : ¬ (b = false ∧ n = 0)) (h0 : y = bI b) (h1 : x = nI (2 * n)) (h2 : n ≤ 20) : ¬ y = 0 ∨ 0 < x := by
  cases b
  · refine Or.inr ?_
    rw [h1, Int32.lt_iff_toInt_lt, ixn (by omega)]
    have e0 : (0 : Int32).toInt = 0 := rfl
    have : ¬ n = 0 := fun z => hs ⟨rfl, z⟩
    omega
  · exact Or.inl (by rw [h0]; decide)
set_option maxRecDepth 100000 in
set_option maxHeartbeats 4000000 in
theorem sr_setTrip {K : KX} {c : Nat} : ∀ (n : Nat) (h : MH) (p1 p2 p3 p4 p5 : Int32), Jv Rel c n h → StepI K (c + 176) (c + 192) mL_setTrip [.ref c, .int p1, .int p2, .int p3, .int p4, .int p5, .ref (c + 192)] mX11_setTrip [.ref (c + 176), .int p1, .int p2, .int p3, .int p4, .int p5] (Jv Rel c) n h := by
  intro n h p1 p2 p3 p4 p5 j0
  obtain ⟨P, M, f, cp, mm, ho, hn, hr⟩ := j0
  have hB := hr.1
  obtain ⟨⟨f8, f20, g0, g1, g2, fd, fr⟩, ft⟩ := Rel.hasF.1 P M hr
  obtain ⟨fs, hc⟩ := cp.obj
  by_cases hp1 : b_in p1 0 (nI (bnd (pB P)) - 1) = true
  · obtain ⟨d, hd9, rfl⟩ := (bin_ix (by omega)).mp hp1
    have hdb : b_in (nI d) 0 (gbrd M 1 - 1) = true := by rw [g1]; exact hp1
    have hd2 : d < 8 := by omega
    have hdt : 2 ≤ rn (bT (pB P) d) := by rw [(hB.2.2 d hd9).1]; omega
    by_cases hb : (b_pl p2 p3 && b_pl p4 p5) = true
    · skip
      obtain ⟨hf1, hf2, hf3, hf4⟩ := hB.half hd9
      have ho8 := hB.op hd9
      by_cases hs : ddo (bD (pB P) d) = false ∧ i_count (inP (gbrd M) d) (bnr (pB P)) = 0
      · skip
        have h0 : rl (gbrd M) d = [] := List.eq_nil_of_length_eq_zero (by omega)
        obtain ⟨t1, t2⟩ := hB.trip hd9 (sx := p2) (sy := p3) (ex := p4) (ey := p5) (Bool.and_eq_true _ _ ▸ hb).1 (Bool.and_eq_true _ _ ▸ hb).2 h0
        refine gl_I (M' := sbrd (sthr M 0) (a_tripG (gbrd M) d p2 p3 p4 p5)) (QQ := fun P9 => P9 = p_setB P (b_setT (pB P) d (r_begin (bT (pB P) d) p2 p3 p4 p5))) mm ho hn (Nat.le_refl _) (by omega) (by omega) (cn_X10_setTrip cp rfl hd9 hb hs.1 (by rw [hf1, hs.2]; decide)) (fun Q' q1 q2 q3 q4 => cl_setTrip hc q1 q2 q3 q4) (fun h' e => ⟨e.2.s, _, e.1, rfl⟩) (fun h1 x => ?_) rfl (fun P9 e => by cases e; exact ⟨t1, hr.2⟩)
        have q := cs_setTrip (K := K) (n := n) x hd2 hdb hb (by rw [ho8, hs.1]; rfl) (by rw [hf2, hs.2]; decide)
        rw [t2] at q
        exact q
      · skip
        exact gx_I (v := 0) (M' := sthr M 3) (j := 2) (QQ := fun P9 => P9 = P) mm ho hn (Nat.le_refl _) (by omega) (by omega) (cn_X10_setTrip_state cp rfl hd9 hb (trip_st hs hf1 hf3)) (fun Q' q1 q2 q3 q4 => cl_setTrip hc q1 q2 q3 q4) rfl (fun j' e => jN (by decide) rfl e) (by decide) (fun h' e => by cases e; exact ⟨fun _ _ _ => rfl, P, cp, rfl⟩) (fun n1 h1 x => cs_setTrip_state x hd2 hdb hb (trip_sr hs ho8 hf2 hf3)) rfl (fun P9 e => by cases e; exact Rel.hasF.2 _ _ _ hr)
    · skip
      exact gx_I (v := 0) (M' := sthr M 2) (j := 1) (QQ := fun P9 => P9 = P) mm ho hn (Nat.le_refl _) (by omega) (by omega) (cn_X10_setTrip_arg cp rfl hd9 (bf hb)) (fun Q' q1 q2 q3 q4 => cl_setTrip hc q1 q2 q3 q4) rfl (fun j' e => jN (by decide) rfl e) (by decide) (fun h' e => by cases e; exact ⟨fun _ _ _ => rfl, P, cp, rfl⟩) (fun n1 h1 x => cs_setTrip_arg x hd2 hdb (bf hb)) rfl (fun P9 e => by cases e; exact Rel.hasF.2 _ _ _ hr)
  · have hp1 := bin_ne hp1
    exact gx_I (v := 0) (M' := sthr M 1) (j := 0) (QQ := fun P9 => P9 = P) mm ho hn (Nat.le_refl _) (by omega) (by omega) (cn_X10_setTrip_no cp hp1) (fun Q' q1 q2 q3 q4 => cl_setTrip hc q1 q2 q3 q4) rfl (fun j' e => jN (by decide) rfl e) (by decide) (fun h' e => by cases e; exact ⟨fun _ _ _ => rfl, P, cp, rfl⟩) (fun n1 h1 x => cs_setTrip_no x (by rw [g1]; exact hp1)) rfl (fun P9 e => by cases e; exact Rel.hasF.2 _ _ _ hr)

set_option maxRecDepth 100000 in
set_option maxHeartbeats 4000000 in
theorem sr_ridersOf {K : KX} {c : Nat} : ∀ (n : Nat) (h : MH) (p1 : Int32), Jv Rel c n h → StepI K (c + 176) (c + 192) mL_ridersOf [.ref c, .int p1, .ref (c + 192)] mX11_ridersOf [.ref (c + 176), .int p1] (Jv Rel c) n h := by
  intro n h p1 j0
  obtain ⟨P, M, f, cp, mm, ho, hn, hr⟩ := j0
  have hB := hr.1
  obtain ⟨⟨f8, f20, g0, g1, g2, fd, fr⟩, ft⟩ := Rel.hasF.1 P M hr
  obtain ⟨fs, hc⟩ := cp.obj
  by_cases hp1 : b_in p1 0 (nI (bnd (pB P)) - 1) = true
  · obtain ⟨d, hd9, rfl⟩ := (bin_ix (by omega)).mp hp1
    have hdb : b_in (nI d) 0 (gbrd M 1 - 1) = true := by rw [g1]; exact hp1
    have hd2 : d < 8 := by omega
    have hdt : 2 ≤ rn (bT (pB P) d) := by rw [(hB.2.2 d hd9).1]; omega
    refine gl_I (M' := sthr M 0) (QQ := fun P9 => P9 = P) mm ho hn (Nat.le_refl _) (by omega) (by omega) (cn_X10_ridersOf cp rfl hd9) (fun Q' q1 q2 q3 q4 => cl_ridersOf hc q1 q2 q3 q4) (fun h' e => by cases e; exact ⟨fun _ _ _ => rfl, P, cp, rfl⟩) (fun h1 x => ?_) rfl (fun P9 e => by cases e; exact Rel.hasF.2 _ _ _ hr)
    have q := cs_ridersOf (K := K) (n := n) x hd2 hdb g2 f20
    rw [← hB.mask hd9] at q
    exact q
  · have hp1 := bin_ne hp1
    exact gx_I (v := 0) (M' := sthr M 1) (j := 0) (QQ := fun P9 => P9 = P) mm ho hn (Nat.le_refl _) (by omega) (by omega) (cn_X10_ridersOf_no cp hp1) (fun Q' q1 q2 q3 q4 => cl_ridersOf hc q1 q2 q3 q4) rfl (fun j' e => jN (by decide) rfl e) (by decide) (fun h' e => by cases e; exact ⟨fun _ _ _ => rfl, P, cp, rfl⟩) (fun n1 h1 x => cs_ridersOf_no x (by rw [g1]; exact hp1)) rfl (fun P9 e => by cases e; exact Rel.hasF.2 _ _ _ hr)

set_option maxRecDepth 100000 in
set_option maxHeartbeats 4000000 in
theorem sr_extra {K : KX} {c : Nat} : ∀ (n : Nat) (h : MH) (p1 p2 : Int32), Jv Rel c n h → StepI K (c + 176) (c + 192) mL_extra [.ref c, .int p1, .int p2, .ref (c + 192)] mX11_extra [.ref (c + 176), .int p1, .int p2] (Jv Rel c) n h := by
  intro n h p1 p2 j0
  obtain ⟨P, M, f, cp, mm, ho, hn, hr⟩ := j0
  have hB := hr.1
  obtain ⟨⟨f8, f20, g0, g1, g2, fd, fr⟩, ft⟩ := Rel.hasF.1 P M hr
  obtain ⟨fs, hc⟩ := cp.obj
  by_cases hp1 : b_in p1 0 (nI (bnr (pB P)) - 1) = true
  · obtain ⟨r, hr9, rfl⟩ := (bin_ix (by omega)).mp hp1
    have hrb : b_in (nI r) 0 (gbrd M 2 - 1) = true := by rw [g2]; exact hp1
    have hr2 : r < 20 := by omega
    by_cases hp2 : b_in p2 0 (nI (bnd (pB P)) - 1) = true
    · obtain ⟨d, hd9, rfl⟩ := (bin_ix (by omega)).mp hp2
      have hdb : b_in (nI d) 0 (gbrd M 1 - 1) = true := by rw [g1]; exact hp2
      have hd2 : d < 8 := by omega
      have hdt : 2 ≤ rn (bT (pB P) d) := by rw [(hB.2.2 d hd9).1]; omega
      refine gl_I (M' := sthr M 0) (QQ := fun P9 => P9 = P) mm ho hn (Nat.le_refl _) (by omega) (by omega) (cn_X10_extra cp rfl hr9 rfl hd9 hdt) (fun Q' q1 q2 q3 q4 => cl_extra hc q1 q2 q3 q4) (fun h' e => ⟨e.2.s, _, e.1, rfl⟩) (fun h1 x => ?_) rfl (fun P9 e => by cases e; exact Rel.hasF.2 _ _ _ hr)
      have q := cs_extra (K := K) (n := n) x hr2 hrb hd2 hdb (hB.rok hd9)
      rw [(hB.inr hd9 hr9).none] at q
      exact q
    · have hp2 := bin_ne hp2
      exact gx_I (v := 0) (M' := sthr M 1) (j := 0) (QQ := fun P9 => P9 = P) mm ho hn (Nat.le_refl _) (by omega) (by omega) (cn_X10_extra_nod cp rfl hr9 hp2) (fun Q' q1 q2 q3 q4 => cl_extra hc q1 q2 q3 q4) rfl (fun j' e => jN (by decide) rfl e) (by decide) (fun h' e => by cases e; exact ⟨fun _ _ _ => rfl, P, cp, rfl⟩) (fun n1 h1 x => cs_extra_nod x hr2 hrb (by rw [g1]; exact hp2)) rfl (fun P9 e => by cases e; exact Rel.hasF.2 _ _ _ hr)
  · have hp1 := bin_ne hp1
    exact gx_I (v := 0) (M' := sthr M 1) (j := 0) (QQ := fun P9 => P9 = P) mm ho hn (Nat.le_refl _) (by omega) (by omega) (cn_X10_extra_nor cp hp1) (fun Q' q1 q2 q3 q4 => cl_extra hc q1 q2 q3 q4) rfl (fun j' e => jN (by decide) rfl e) (by decide) (fun h' e => by cases e; exact ⟨fun _ _ _ => rfl, P, cp, rfl⟩) (fun n1 h1 x => cs_extra_nor x (by rw [g2]; exact hp1)) rfl (fun P9 e => by cases e; exact Rel.hasF.2 _ _ _ hr)

set_option maxRecDepth 100000 in
set_option maxHeartbeats 4000000 in
theorem sr_bestDriver {K : KX} {c : Nat} : ∀ (n : Nat) (h : MH) (p1 : Int32), Jv Rel c n h → StepI K (c + 176) (c + 192) mL_bestDriver [.ref c, .int p1, .ref (c + 192)] mX11_bestDriver [.ref (c + 176), .int p1] (Jv Rel c) n h := by
  intro n h p1 j0
  obtain ⟨P, M, f, cp, mm, ho, hn, hr⟩ := j0
  have hB := hr.1
  obtain ⟨⟨f8, f20, g0, g1, g2, fd, fr⟩, ft⟩ := Rel.hasF.1 P M hr
  obtain ⟨fs, hc⟩ := cp.obj
  by_cases hp1 : b_in p1 0 (nI (bnr (pB P)) - 1) = true
  · obtain ⟨r, hr9, rfl⟩ := (bin_ix (by omega)).mp hp1
    have hrb : b_in (nI r) 0 (gbrd M 2 - 1) = true := by rw [g2]; exact hp1
    have hr2 : r < 20 := by omega
    refine gl_I (M' := sthr M 0) (QQ := fun P9 => P9 = P) mm ho hn (Nat.le_refl _) (by omega) (by omega) (cn_X10_bestDriver cp rfl hr9 hB.tok) (fun Q' q1 q2 q3 q4 => cl_bestDriver hc q1 q2 q3 q4) (fun h' e => ⟨e.2.s, _, e.1, rfl⟩) (fun h1 x => ?_) rfl (fun P9 e => by cases e; exact Rel.hasF.2 _ _ _ hr)
    have q := cs_bestDriver (K := K) (n := n) x hr2 hrb g1 f8 (L := rl (gbrd M)) (fun d hd => hB.rok hd)
    rw [← hB.best hr9] at q
    exact q
  · have hp1 := bin_ne hp1
    exact gx_I (v := 0) (M' := sthr M 1) (j := 0) (QQ := fun P9 => P9 = P) mm ho hn (Nat.le_refl _) (by omega) (by omega) (cn_X10_bestDriver_no cp hp1) (fun Q' q1 q2 q3 q4 => cl_bestDriver hc q1 q2 q3 q4) rfl (fun j' e => jN (by decide) rfl e) (by decide) (fun h' e => by cases e; exact ⟨fun _ _ _ => rfl, P, cp, rfl⟩) (fun n1 h1 x => cs_bestDriver_no x (by rw [g2]; exact hp1)) rfl (fun P9 e => by cases e; exact Rel.hasF.2 _ _ _ hr)

theorem asg_st {x : Int32} {b : Bool} (h : ¬ (x = 0 ∧ b = false)) : ¬ x = 0 ∨ b = true := by
  cases b
  · exact Or.inl fun z => h ⟨z, rfl⟩
  · exact Or.inr rfl
theorem asg_sr {x y z : Int32} {b : Bool} (h : ¬ (x = 0 ∧ b = false)) (h1 : y = x) (h2 : z = bI b) : ¬ y = 0 ∨ ¬ z = 0 := by
  cases b
  · exact Or.inl fun w => h ⟨h1.symm.trans w, rfl⟩
  · exact Or.inr (by rw [h2]; decide)
set_option maxRecDepth 100000 in
set_option maxHeartbeats 4000000 in
theorem sr_assign {K : KX} {c : Nat} : ∀ (n : Nat) (h : MH) (p1 p2 : Int32), Jv Rel c n h → StepI K (c + 176) (c + 192) mL_assign [.ref c, .int p1, .int p2, .ref (c + 192)] mX11_assign [.ref (c + 176), .int p1, .int p2] (Jv Rel c) n h := by
  intro n h p1 p2 j0
  obtain ⟨P, M, f, cp, mm, ho, hn, hr⟩ := j0
  have hB := hr.1
  obtain ⟨⟨f8, f20, g0, g1, g2, fd, fr⟩, ft⟩ := Rel.hasF.1 P M hr
  obtain ⟨fs, hc⟩ := cp.obj
  by_cases hp1 : b_in p1 0 (nI (bnr (pB P)) - 1) = true
  · obtain ⟨r, hr9, rfl⟩ := (bin_ix (by omega)).mp hp1
    have hrb : b_in (nI r) 0 (gbrd M 2 - 1) = true := by rw [g2]; exact hp1
    have hr2 : r < 20 := by omega
    by_cases hp2 : b_in p2 0 (nI (bnd (pB P)) - 1) = true
    · obtain ⟨d, hd9, rfl⟩ := (bin_ix (by omega)).mp hp2
      have hdb : b_in (nI d) 0 (gbrd M 1 - 1) = true := by rw [g1]; exact hp2
      have hd2 : d < 8 := by omega
      have hdt : 2 ≤ rn (bT (pB P) d) := by rw [(hB.2.2 d hd9).1]; omega
      by_cases hs : qst (bX (pB P) r) = 0 ∧ ddo (bD (pB P) d) = false
      · skip
        have hs6 : gr (gbrd M) r 6 = 0 := (hB.st hr9).1.trans hs.1
        have hs8 : gd (gbrd M) d 8 = 0 := by rw [hB.op hd9, hs.2]; rfl
        have h7 := hB.noin hr9 hs6
        have hnn : ¬ gr (gbrd M) r 7 = nI d := fun z => nI_ne_m1 (a := d) (by omega) (by rw [← z]; exact h7)
        have h38 := (hB.2.1.1 d hd9).2.l38 f20 hr9 hnn
        by_cases hv : (s_best (bT (pB P) d) (nI r) (bX (pB P) r) (bD (pB P) d)).1 = -1
        · skip
          exact gx_I (M' := sthr M 2) (j := 1) (QQ := fun P9 => P9 = P) mm ho hn (Nat.le_refl _) (by omega) (by omega) (cn_X10_assign_nox cp rfl hr9 rfl hd9 hdt hs.1 hs.2 hv) (fun Q' q1 q2 q3 q4 => cl_assign hc q1 q2 q3 q4) rfl (fun j' e => jN (by decide) rfl e) (by decide) (fun h' e => ⟨e.2.s, _, e.1, rfl⟩) (fun n1 h1 x => cs_assign_nox x hr2 hrb hd2 hdb (hB.rok hd9) h38 hs6 hs8 ((hB.extn hd9 hr9 hnn).mpr hv)) rfl (fun P9 e => by cases e; exact Rel.hasF.2 _ _ _ hr)
        · skip
          refine gl_I (M' := sbrd (sthr M 0) (w_joinG (gbrd M) r d (rl (gbrd M) d))) (QQ := fun P9 => ∃ B', Bput (pB P) r d B' ∧ P9 = p_setB P B') mm ho hn (Nat.le_refl _) (by omega) (by omega) (cn_X10_assign cp rfl hr9 rfl hd9 hdt hs.1 hs.2 hv) (fun Q' q1 q2 q3 q4 => cl_assign hc q1 q2 q3 q4) (fun h' e => by obtain ⟨B', e1, e2⟩ := e; exact ⟨e2.2.s, _, e2.1, B', e1, rfl⟩) (fun h1 x => ?_) rfl (fun P9 e => by obtain ⟨B', e1, rfl⟩ := e; exact ⟨hB.join hd9 hr9 hs6 hs8 e1, hr.2⟩)
          have q := cs_assign (K := K) (n := n) x hr2 hrb hd2 hdb (hB.rok hd9) h38 hs6 hs8 (fun z => hv ((hB.extn hd9 hr9 hnn).mp z))
          have e := hB.extv hd9 hr9 hnn hv
          rw [← e]
          exact q
      · skip
        exact gx_I (v := 0) (M' := sthr M 2) (j := 1) (QQ := fun P9 => P9 = P) mm ho hn (Nat.le_refl _) (by omega) (by omega) (cn_X10_assign_state cp rfl hr9 rfl hd9 (asg_st hs)) (fun Q' q1 q2 q3 q4 => cl_assign hc q1 q2 q3 q4) rfl (fun j' e => jN (by decide) rfl e) (by decide) (fun h' e => by cases e; exact ⟨fun _ _ _ => rfl, P, cp, rfl⟩) (fun n1 h1 x => cs_assign_state x hr2 hrb hd2 hdb (asg_sr hs (hB.st hr9).1 (hB.op hd9))) rfl (fun P9 e => by cases e; exact Rel.hasF.2 _ _ _ hr)
    · have hp2 := bin_ne hp2
      exact gx_I (v := 0) (M' := sthr M 1) (j := 0) (QQ := fun P9 => P9 = P) mm ho hn (Nat.le_refl _) (by omega) (by omega) (cn_X10_assign_nod cp rfl hr9 hp2) (fun Q' q1 q2 q3 q4 => cl_assign hc q1 q2 q3 q4) rfl (fun j' e => jN (by decide) rfl e) (by decide) (fun h' e => by cases e; exact ⟨fun _ _ _ => rfl, P, cp, rfl⟩) (fun n1 h1 x => cs_assign_nod x hr2 hrb (by rw [g1]; exact hp2)) rfl (fun P9 e => by cases e; exact Rel.hasF.2 _ _ _ hr)
  · have hp1 := bin_ne hp1
    exact gx_I (v := 0) (M' := sthr M 1) (j := 0) (QQ := fun P9 => P9 = P) mm ho hn (Nat.le_refl _) (by omega) (by omega) (cn_X10_assign_nor cp hp1) (fun Q' q1 q2 q3 q4 => cl_assign hc q1 q2 q3 q4) rfl (fun j' e => jN (by decide) rfl e) (by decide) (fun h' e => by cases e; exact ⟨fun _ _ _ => rfl, P, cp, rfl⟩) (fun n1 h1 x => cs_assign_nor x (by rw [g2]; exact hp1)) rfl (fun P9 e => by cases e; exact Rel.hasF.2 _ _ _ hr)

set_option maxRecDepth 100000 in
set_option maxHeartbeats 4000000 in
theorem sr_unassign {K : KX} {c : Nat} : ∀ (n : Nat) (h : MH) (p1 : Int32), Jv Rel c n h → StepI K (c + 176) (c + 192) mL_unassign [.ref c, .int p1, .ref (c + 192)] mX11_unassign [.ref (c + 176), .int p1] (Jv Rel c) n h := by
  intro n h p1 j0
  obtain ⟨P, M, f, cp, mm, ho, hn, hr⟩ := j0
  have hB := hr.1
  obtain ⟨⟨f8, f20, g0, g1, g2, fd, fr⟩, ft⟩ := Rel.hasF.1 P M hr
  obtain ⟨fs, hc⟩ := cp.obj
  by_cases hp1 : b_in p1 0 (nI (bnr (pB P)) - 1) = true
  · obtain ⟨r, hr9, rfl⟩ := (bin_ix (by omega)).mp hp1
    have hrb : b_in (nI r) 0 (gbrd M 2 - 1) = true := by rw [g2]; exact hp1
    have hr2 : r < 20 := by omega
    by_cases hs : qst (bX (pB P) r) = 1
    · skip
      obtain ⟨d, hd9, h7, hq⟩ := hB.asg hr9 hs
      have hd2 : d < 8 := by omega
      have hdt : 2 ≤ rn (bT (pB P) d) := hB.tok d hd9
      have hs6 : gr (gbrd M) r 6 = 1 := (hB.st hr9).1.trans hs
      refine gl_I (M' := sbrd (sthr M 0) (w_leaveG (gbrd M) r d (rl (gbrd M) d) 0)) (QQ := fun P9 => ∃ T, Rrem (bT (pB P) d) (nI r) T ∧ P9 = p_setB P (Bout (pB P) r d 0 T)) mm ho hn (Nat.le_refl _) (by omega) (by omega) ((cn_X10_unassign cp rfl hr9 hs hd9 hq hdt (fun T hT => (hB.mleave hd9 hr2 hT).2)).mono (Q' := RetP (some (.int (w_marg (gbrd M) r d (rl (gbrd M) d)))) n (fun h' => ∃ T, Rrem (bT (pB P) d) (nI r) T ∧ CpE h h' n c (p_setB P (Bout (pB P) r d 0 T)))) (fun r9 n9 h9 q => by obtain ⟨T, hT, e1, e2, e3⟩ := q; exact ⟨by rw [e1, (hB.mleave hd9 hr2 hT).1], e2, T, hT, e3⟩)) (fun Q' q1 q2 q3 q4 => cl_unassign hc q1 q2 q3 q4) (fun h' e => by obtain ⟨T, e1, e2⟩ := e; exact ⟨e2.2.s, _, e2.1, T, e1, rfl⟩) (fun h1 x => ?_) rfl (fun P9 e => by obtain ⟨T, e1, rfl⟩ := e; exact ⟨hB.leave hd9 hr9 h7 (Or.inl rfl) e1, hr.2⟩)
      exact cs_unassign (K := K) (n := n) x hr2 hrb hd2 (hB.rok hd9) hs6 h7
    · skip
      exact gx_I (v := 0) (M' := sthr M 2) (j := 1) (QQ := fun P9 => P9 = P) mm ho hn (Nat.le_refl _) (by omega) (by omega) (cn_X10_unassign_st cp rfl hr9 hs) (fun Q' q1 q2 q3 q4 => cl_unassign hc q1 q2 q3 q4) rfl (fun j' e => jN (by decide) rfl e) (by decide) (fun h' e => by cases e; exact ⟨fun _ _ _ => rfl, P, cp, rfl⟩) (fun n1 h1 x => cs_unassign_st x hr2 hrb (by rw [(hB.st hr9).1]; exact hs)) rfl (fun P9 e => by cases e; exact Rel.hasF.2 _ _ _ hr)
  · have hp1 := bin_ne hp1
    exact gx_I (v := 0) (M' := sthr M 1) (j := 0) (QQ := fun P9 => P9 = P) mm ho hn (Nat.le_refl _) (by omega) (by omega) (cn_X10_unassign_no cp hp1) (fun Q' q1 q2 q3 q4 => cl_unassign hc q1 q2 q3 q4) rfl (fun j' e => jN (by decide) rfl e) (by decide) (fun h' e => by cases e; exact ⟨fun _ _ _ => rfl, P, cp, rfl⟩) (fun n1 h1 x => cs_unassign_no x (by rw [g2]; exact hp1)) rfl (fun P9 e => by cases e; exact Rel.hasF.2 _ _ _ hr)

set_option maxRecDepth 100000 in
set_option maxHeartbeats 4000000 in
theorem sr_noShow {K : KX} {c : Nat} : ∀ (n : Nat) (h : MH) (p1 : Int32), Jv Rel c n h → StepI K (c + 176) (c + 192) mL_noShow [.ref c, .int p1, .ref (c + 192)] mX11_noShow [.ref (c + 176), .int p1] (Jv Rel c) n h := by
  intro n h p1 j0
  obtain ⟨P, M, f, cp, mm, ho, hn, hr⟩ := j0
  have hB := hr.1
  obtain ⟨⟨f8, f20, g0, g1, g2, fd, fr⟩, ft⟩ := Rel.hasF.1 P M hr
  obtain ⟨fs, hc⟩ := cp.obj
  by_cases hp1 : b_in p1 0 (nI (bnr (pB P)) - 1) = true
  · obtain ⟨r, hr9, rfl⟩ := (bin_ix (by omega)).mp hp1
    have hrb : b_in (nI r) 0 (gbrd M 2 - 1) = true := by rw [g2]; exact hp1
    have hr2 : r < 20 := by omega
    by_cases hs : qst (bX (pB P) r) = 1
    · skip
      obtain ⟨d, hd9, h7, hq⟩ := hB.asg hr9 hs
      have hd2 : d < 8 := by omega
      have hdt : 2 ≤ rn (bT (pB P) d) := hB.tok d hd9
      have hs6 : gr (gbrd M) r 6 = 1 := (hB.st hr9).1.trans hs
      refine gl_I (M' := a_nosh (sthr M 0) r d (rl (gbrd M) d)) (QQ := fun P9 => ∃ T, Rrem (bT (pB P) d) (nI r) T ∧ P9 = p_setB P (b_nosh (pB P) r d T)) mm ho hn (Nat.le_refl _) (by omega) (by omega) ((cn_X10_noShow cp rfl hr9 hs hd9 hq).mono (Q' := RetP (some (.int (nI d))) n (fun h' => ∃ T, Rrem (bT (pB P) d) (nI r) T ∧ CpE h h' n c (p_setB P (b_nosh (pB P) r d T)))) (fun r9 n9 h9 q => by obtain ⟨T, hT, e1, e2, e3⟩ := q; exact ⟨e1, e2, T, hT, e3⟩)) (fun Q' q1 q2 q3 q4 => cl_noShow hc q1 q2 q3 q4) (fun h' e => by obtain ⟨T, e1, e2⟩ := e; exact ⟨e2.2.s, _, e2.1, T, e1, rfl⟩) (fun h1 x => ?_) rfl (fun P9 e => by obtain ⟨T, e1, rfl⟩ := e; exact ⟨hB.nosh hd9 hr9 h7 e1, hr.2⟩)
      exact cs_noShow (K := K) (n := n) x hr2 hrb hd2 (hB.rok hd9) hs6 h7
    · skip
      exact gx_I (v := 0) (M' := sthr M 2) (j := 1) (QQ := fun P9 => P9 = P) mm ho hn (Nat.le_refl _) (by omega) (by omega) (cn_X10_noShow_st cp rfl hr9 hs) (fun Q' q1 q2 q3 q4 => cl_noShow hc q1 q2 q3 q4) rfl (fun j' e => jN (by decide) rfl e) (by decide) (fun h' e => by cases e; exact ⟨fun _ _ _ => rfl, P, cp, rfl⟩) (fun n1 h1 x => cs_noShow_st x hr2 hrb (by rw [(hB.st hr9).1]; exact hs)) rfl (fun P9 e => by cases e; exact Rel.hasF.2 _ _ _ hr)
  · have hp1 := bin_ne hp1
    exact gx_I (v := 0) (M' := sthr M 1) (j := 0) (QQ := fun P9 => P9 = P) mm ho hn (Nat.le_refl _) (by omega) (by omega) (cn_X10_noShow_no cp hp1) (fun Q' q1 q2 q3 q4 => cl_noShow hc q1 q2 q3 q4) rfl (fun j' e => jN (by decide) rfl e) (by decide) (fun h' e => by cases e; exact ⟨fun _ _ _ => rfl, P, cp, rfl⟩) (fun n1 h1 x => cs_noShow_no x (by rw [g2]; exact hp1)) rfl (fun P9 e => by cases e; exact Rel.hasF.2 _ _ _ hr)

set_option maxRecDepth 100000 in
set_option maxHeartbeats 4000000 in
theorem sr_marginal {K : KX} {c : Nat} : ∀ (n : Nat) (h : MH) (p1 : Int32), Jv Rel c n h → StepI K (c + 176) (c + 192) mL_marginal [.ref c, .int p1, .ref (c + 192)] mX11_marginal [.ref (c + 176), .int p1] (Jv Rel c) n h := by
  intro n h p1 j0
  obtain ⟨P, M, f, cp, mm, ho, hn, hr⟩ := j0
  have hB := hr.1
  obtain ⟨⟨f8, f20, g0, g1, g2, fd, fr⟩, ft⟩ := Rel.hasF.1 P M hr
  obtain ⟨fs, hc⟩ := cp.obj
  by_cases hp1 : b_in p1 0 (nI (bnr (pB P)) - 1) = true
  · obtain ⟨r, hr9, rfl⟩ := (bin_ix (by omega)).mp hp1
    have hrb : b_in (nI r) 0 (gbrd M 2 - 1) = true := by rw [g2]; exact hp1
    have hr2 : r < 20 := by omega
    rcases hB.drv hr9 with ⟨h7, hq⟩ | ⟨d, hd9, h7, hq⟩
    · skip
      refine gl_I (M' := sthr M 0) (QQ := fun P9 => P9 = P) mm ho hn (Nat.le_refl _) (by omega) (by omega) (cn_X10_marginal_none cp rfl hr9 hq) (fun Q' q1 q2 q3 q4 => cl_marginal hc q1 q2 q3 q4) (fun h' e => by cases e; exact ⟨fun _ _ _ => rfl, P, cp, rfl⟩) (fun h1 x => ?_) rfl (fun P9 e => by cases e; exact Rel.hasF.2 _ _ _ hr)
      exact cs_marginal_none (K := K) (n := n) x hr2 hrb h7
    · have hd2 : d < 8 := by omega
      refine gl_I (M' := sthr M 0) (QQ := fun P9 => P9 = P) mm ho hn (Nat.le_refl _) (by omega) (by omega) (cn_X10_marginal cp rfl hr9 hd9 hq (hB.tok d hd9)) (fun Q' q1 q2 q3 q4 => cl_marginal hc q1 q2 q3 q4) (fun h' e => by cases e; exact ⟨fun _ _ _ => rfl, P, cp, rfl⟩) (fun h1 x => ?_) rfl (fun P9 e => by cases e; exact Rel.hasF.2 _ _ _ hr)
      have q := cs_marginal (K := K) (n := n) x hr2 hrb hd2 (hB.rok hd9) h7
      rw [← hB.marg hd9 hr2] at q
      exact q
  · have hp1 := bin_ne hp1
    exact gx_I (v := 0) (M' := sthr M 1) (j := 0) (QQ := fun P9 => P9 = P) mm ho hn (Nat.le_refl _) (by omega) (by omega) (cn_X10_marginal_no cp hp1) (fun Q' q1 q2 q3 q4 => cl_marginal hc q1 q2 q3 q4) rfl (fun j' e => jN (by decide) rfl e) (by decide) (fun h' e => by cases e; exact ⟨fun _ _ _ => rfl, P, cp, rfl⟩) (fun n1 h1 x => cs_marginal_no x (by rw [g2]; exact hp1)) rfl (fun P9 e => by cases e; exact Rel.hasF.2 _ _ _ hr)

set_option maxRecDepth 100000 in
set_option maxHeartbeats 4000000 in
theorem sr_replacement {K : KX} {c : Nat} : ∀ (n : Nat) (h : MH) (p1 : Int32), Jv Rel c n h → StepI K (c + 176) (c + 192) mL_replacement [.ref c, .int p1, .ref (c + 192)] mX11_replacement [.ref (c + 176), .int p1] (Jv Rel c) n h := by
  intro n h p1 j0
  obtain ⟨P, M, f, cp, mm, ho, hn, hr⟩ := j0
  have hB := hr.1
  obtain ⟨⟨f8, f20, g0, g1, g2, fd, fr⟩, ft⟩ := Rel.hasF.1 P M hr
  obtain ⟨fs, hc⟩ := cp.obj
  by_cases hp1 : b_in p1 0 (nI (bnd (pB P)) - 1) = true
  · obtain ⟨d, hd9, rfl⟩ := (bin_ix (by omega)).mp hp1
    have hdb : b_in (nI d) 0 (gbrd M 1 - 1) = true := by rw [g1]; exact hp1
    have hd2 : d < 8 := by omega
    have hdt : 2 ≤ rn (bT (pB P) d) := by rw [(hB.2.2 d hd9).1]; omega
    refine gl_I (M' := sthr M 0) (QQ := fun P9 => P9 = P) mm ho hn (Nat.le_refl _) (by omega) (by omega) (cn_X10_replacement cp rfl hd9 hdt) (fun Q' q1 q2 q3 q4 => cl_replacement hc q1 q2 q3 q4) (fun h' e => ⟨e.2.s, _, e.1, rfl⟩) (fun h1 x => ?_) rfl (fun P9 e => by cases e; exact Rel.hasF.2 _ _ _ hr)
    have q := cs_replacement (K := K) (n := n) x hd2 hdb g2 f20 (hB.rok hd9)
    have e := (hB.repl hd9).1
    unfold w_repl at e
    rw [← e] at q
    exact q
  · have hp1 := bin_ne hp1
    exact gx_I (v := 0) (M' := sthr M 1) (j := 0) (QQ := fun P9 => P9 = P) mm ho hn (Nat.le_refl _) (by omega) (by omega) (cn_X10_replacement_no cp hp1) (fun Q' q1 q2 q3 q4 => cl_replacement hc q1 q2 q3 q4) rfl (fun j' e => jN (by decide) rfl e) (by decide) (fun h' e => by cases e; exact ⟨fun _ _ _ => rfl, P, cp, rfl⟩) (fun n1 h1 x => cs_replacement_no x (by rw [g1]; exact hp1)) rfl (fun P9 e => by cases e; exact Rel.hasF.2 _ _ _ hr)

set_option maxRecDepth 100000 in
set_option maxHeartbeats 4000000 in
theorem sr_fill {K : KX} {c : Nat} : ∀ (n : Nat) (h : MH) (p1 : Int32), Jv Rel c n h → StepI K (c + 176) (c + 192) mL_fill [.ref c, .int p1, .ref (c + 192)] mX11_fill [.ref (c + 176), .int p1] (Jv Rel c) n h := by
  intro n h p1 j0
  obtain ⟨P, M, f, cp, mm, ho, hn, hr⟩ := j0
  have hB := hr.1
  obtain ⟨⟨f8, f20, g0, g1, g2, fd, fr⟩, ft⟩ := Rel.hasF.1 P M hr
  obtain ⟨fs, hc⟩ := cp.obj
  by_cases hp1 : b_in p1 0 (nI (bnd (pB P)) - 1) = true
  · obtain ⟨d, hd9, rfl⟩ := (bin_ix (by omega)).mp hp1
    have hdb : b_in (nI d) 0 (gbrd M 1 - 1) = true := by rw [g1]; exact hp1
    have hd2 : d < 8 := by omega
    have hdt : 2 ≤ rn (bT (pB P) d) := by rw [(hB.2.2 d hd9).1]; omega
    have c20 : i_count (is0 (pB P)) (bnr (pB P)) ≤ 20 := Nat.le_trans (ic_le _ _) f20
    obtain ⟨k0, B0, hF0⟩ := hB.fillEx 20 hd9
    refine gl_I (M' := sbrd (sthr M 0) (w_fill (gcrd M) d (bnr (pB P)) 20 (gbrd M)).2) (QQ := fun P9 => ∃ k B', FillR d 20 (pB P) k B' ∧ P9 = p_setB P B') mm ho hn (Nat.le_refl _) (by omega) (by omega) ((cn_X10_fill cp rfl hd9 hdt).mono (Q' := RetP (some (.int (nI (w_fill (gcrd M) d (bnr (pB P)) 20 (gbrd M)).1))) n (fun h' => ∃ k B', FillR d 20 (pB P) k B' ∧ CpE h h' n c (p_setB P B'))) (fun r9 n9 h9 q => by obtain ⟨k, B', hF, e1, e2, e3⟩ := q; exact ⟨by rw [e1, (hB.fill 20 hd9 c20 hF).2.1], e2, k, B', hF, e3⟩)) (fun Q' q1 q2 q3 q4 => cl_fill hc q1 q2 q3 q4) (fun h' e => by obtain ⟨k, B', e1, e2⟩ := e; exact ⟨e2.2.s, _, e2.1, k, B', e1, rfl⟩) (fun h1 x => ?_) rfl (fun P9 e => by obtain ⟨k, B', e1, rfl⟩ := e; exact ⟨(hB.fill 20 hd9 c20 e1).2.2, hr.2⟩)
    exact cs_fill (K := K) (n := n) x hd2 hdb f20 (Nat.le_refl _) (hB.fill 20 hd9 c20 hF0).1
  · have hp1 := bin_ne hp1
    exact gx_I (v := 0) (M' := sthr M 1) (j := 0) (QQ := fun P9 => P9 = P) mm ho hn (Nat.le_refl _) (by omega) (by omega) (cn_X10_fill_no cp hp1) (fun Q' q1 q2 q3 q4 => cl_fill hc q1 q2 q3 q4) rfl (fun j' e => jN (by decide) rfl e) (by decide) (fun h' e => by cases e; exact ⟨fun _ _ _ => rfl, P, cp, rfl⟩) (fun n1 h1 x => cs_fill_no x (by rw [g1]; exact hp1)) rfl (fun P9 e => by cases e; exact Rel.hasF.2 _ _ _ hr)

