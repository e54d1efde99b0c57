theorem mtop_s (B : BS) (S : Nat → Nat → Int32) (H : Nat → Int32) (d k : Nat) : m_top B S H d (k + 1) = if H k = nI d then (match m_top B S H d k with
      | none => some k
      | some b => if p_dpref B S d k b then some k else some b) else m_top B S H d k := rfl
theorem mtop_v (B : BS) (S : Nat → Nat → Int32) (H : Nat → Int32) (d : Nat) : ∀ k, (m_top B S H d k = none ∧ ∀ q, q < k → ¬ H q = nI d) ∨ ∃ r, m_top B S H d k = some r ∧ r < k ∧ H r = nI d
  | 0 => Or.inl ⟨rfl, fun q h => absurd h (by omega)⟩
  | k + 1 => by
    rw [mtop_s]
    by_cases z : H k = nI d
    · rw [if_pos z]
      rcases mtop_v B S H d k with ⟨a, b⟩ | ⟨r, a, b, c⟩
      · rw [a]
        exact Or.inr ⟨k, rfl, by omega, z⟩
      · rw [a]
        show (if p_dpref B S d k r then some k else some r) = none ∧ _ ∨ ∃ r', (if p_dpref B S d k r then some k else some r) = some r' ∧ _
        by_cases p : p_dpref B S d k r = true
        · rw [if_pos p]
          exact Or.inr ⟨k, rfl, by omega, z⟩
        · rw [if_neg p]
          exact Or.inr ⟨r, rfl, by omega, c⟩
    · rw [if_neg z]
      rcases mtop_v B S H d k with ⟨a, b⟩ | ⟨r, a, b, c⟩
      · refine Or.inl ⟨a, fun q hq => ?_⟩
        by_cases y : q = k
        · rw [y]
          exact z
        · exact b q (by omega)
      · exact Or.inr ⟨r, a, by omega, c⟩
theorem utop_e {B : BS} {g : Nat → Int32} {c : Nat → Int64} (h : RB B g c) {S8 : Nat → Nat → Int32} {S : Nat → Int32} (x : Sxs B S8 S) {H H2 : Nat → Int32} {d : Nat} (hd : d < bnd B) (hf : ∀ q, q < bnr B → H q = nI d → u_fit S q d = true) (hH : ∀ q, q < bnr B → H2 q = H q) : ∀ k, k ≤ bnr B → u_top c S H2 d k = m_top B S8 H d k
  | 0, _ => rfl
  | k + 1, hk => by
    have ih := utop_e h x hd hf hH k (by omega)
    have e : u_top c S H2 d (k + 1) = if H2 k = nI d then (match u_top c S H2 d k with
      | none => some k
      | some b => if u_lr c S d k b then some k else some b) else u_top c S H2 d k := rfl
    rw [e, mtop_s, ih, hH k (by omega)]
    by_cases z : H k = nI d
    · rw [if_pos z, if_pos z]
      rcases mtop_v B S8 H d k with ⟨a, b⟩ | ⟨r, a, b, w⟩
      · rw [a]
      · rw [a]
        show (if u_lr c S d k r then some k else some r) = if p_dpref B S8 d k r then some k else some r
        rw [h.lr x hd (by omega) (by omega) (hf k (by omega) z) (hf r (by omega) w)]
    · rw [if_neg z, if_neg z]
def n1c (B : BS) : Nat := i_count (fun r => decide (qst (bX B r) = 1)) (bnr B)
theorem heldR_s (S : Nat → Nat → Int32) (d f : Nat) (B : BS) (H : Nat → Int32) (k : Nat) (B' : BS) (H' : Nat → Int32) : HeldR S d (f + 1) B H k B' H' = ((m_top B S H d (bnr B) = none ∧ HeldR S d f B H k B' H') ∨ ∃ r B1 k1, m_top B S H d (bnr B) = some r ∧ Bput B r d B1 ∧ HeldR S d f B1 (upd H r (-1)) k1 B' H' ∧ k = (if (s_best (bT B d) (nI r) (bX B r) (bD B d)).1 = -1 then 0 else 1) + k1) := rfl
theorem heldR_ex (S : Nat → Nat → Int32) (d : Nat) : ∀ f (B : BS) (H : Nat → Int32), ∃ k B' H', HeldR S d f B H k B' H'
  | 0, B, H => ⟨0, B, H, rfl, rfl, rfl⟩
  | f + 1, B, H => by
    rcases mtop_v B S H d (bnr B) with ⟨a, -⟩ | ⟨r, a, -⟩
    · obtain ⟨k, B', H', e⟩ := heldR_ex S d f B H
      exact ⟨k, B', H', by rw [heldR_s]; exact Or.inl ⟨a, e⟩⟩
    · obtain ⟨B1, p1, -⟩ := Bput.ex B r d
      obtain ⟨k, B', H', e⟩ := heldR_ex S d f B1 (upd H r (-1))
      exact ⟨_, B', H', by rw [heldR_s]; exact Or.inr ⟨r, B1, k, a, p1, e, rfl⟩⟩
theorem matchR_ex (S : Nat → Nat → Int32) : ∀ f d (B : BS) (H : Nat → Int32), ∃ k B', MatchR S f d B H k B'
  | 0, d, B, H => ⟨0, B, rfl, rfl⟩
  | f + 1, d, B, H => by
    obtain ⟨k1, B1, H1, e1⟩ := heldR_ex S d (dse (bD B d)).toInt.toNat B H
    obtain ⟨k2, B2, e2⟩ := matchR_ex S f (d + 1) B1 H1
    exact ⟨k1 + k2, B2, k1, B1, H1, k2, e1, e2, rfl⟩
/-- what a put leaves as it was -/
theorem Bput.fr {B B1 : BS} {r d : Nat} (h : Bput B r d B1) : bnd B1 = bnd B ∧ bnr B1 = bnr B ∧ bD B1 = bD B ∧ (∀ q, ¬ q = r → bX B1 q = bX B q) ∧ ((s_best (bT B d) (nI r) (bX B r) (bD B d)).1 = -1 → qst (bX B1 r) = qst (bX B r)) ∧ (¬ (s_best (bT B d) (nI r) (bX B r) (bD B d)).1 = -1 → qst (bX B1 r) = 1) := by
  by_cases z : (s_best (bT B d) (nI r) (bX B r) (bD B d)).1 = -1
  · have e : B1 = B := by
      unfold Bput at h
      rw [if_pos z] at h
      exact h
    rw [e]
    exact ⟨rfl, rfl, rfl, fun _ _ => rfl, fun _ => rfl, fun y => absurd z y⟩
  · obtain ⟨T, e⟩ := h.put z
    rw [e]
    refine ⟨rfl, rfl, rfl, fun q ne => vf_n _ _ ne, fun y => absurd y z, fun _ => ?_⟩
    have ex : bX (b_setX (b_setT B d T) r (x_put (bX B r) d)) r = x_put (bX B r) d := vf_s _ _ _
    rw [ex]
    rfl
theorem Sxs.of {B B' : BS} {S8 : Nat → Nat → Int32} {S : Nat → Int32} (x : Sxs B S8 S) (e1 : bnd B' = bnd B) (e2 : bnr B' = bnr B) : Sxs B' S8 S := fun d r hd hr => x d r (by omega) (by omega)
/-- THE HELD RIDERS of a driver -/
theorem held_v {c : Nat → Int64} {S8 : Nat → Nat → Int32} {S : Nat → Int32} {d : Nat} : ∀ (f f' : Nat) {B B' : BS} {g H H2 H' : Nat → Int32} {k : Nat}, RB B g c → d < bnd B → Sxs B S8 S → (∀ q, q < bnr B → H q = nI d → u_fit S q d = true ∧ qst (bX B q) = 0) → (∀ q, q < bnr B → u_fit S q d = true → ddo (bD B d) = false) → (∀ q, q < bnr B → H2 q = H q) → hcn B H d ≤ f → hcn B H d ≤ f' → HeldR S8 d f B H k B' H' →
    HeldT c S d (bnr B) f' (g, H2) ∧ RB B' (ah c S d (bnr B) f' (g, H2)).1 c ∧ (∀ q, q < bnr B → (ah c S d (bnr B) f' (g, H2)).2 q = H' q) ∧ (bnd B' = bnd B ∧ bnr B' = bnr B ∧ bD B' = bD B) ∧ (∀ q, q < bnr B → H' q = if H q = nI d then -1 else H q) ∧ (∀ q, q < bnr B → ¬ H q = nI d → bX B' q = bX B q) ∧ n1c B' = n1c B + k
  | 0, f', B, B', g, H, H2, H', k, h, hd, x, hf, ho, hH, c0, c1, q => by
    obtain ⟨rfl, rfl, rfl⟩ := q
    have no : ∀ q, q < bnr B' → ¬ H' q = nI d := fun q hq z => by
      have := ic_pos (fun q => decide (H' q = nI d)) (q := q) (decide_eq_true z) _ hq
      unfold hcn at c0
      omega
    have ut : u_top c S H2 d (bnr B') = none := by
      rw [utop_e h x hd (fun q hq z => (hf q hq z).1) hH _ (Nat.le_refl _)]
      rcases mtop_v B' S8 H' d (bnr B') with ⟨a, -⟩ | ⟨r, a, b, w⟩
      · exact a
      · exact absurd w (no r b)
    have hT : HeldT c S d (bnr B') f' (g, H2) := by
      cases f' with
      | zero => exact ut
      | succ f' =>
        show (match u_top c S H2 d (bnr B') with | none => True | some r => _)
        rw [ut]
        trivial
    have eA : ah c S d (bnr B') f' (g, H2) = (g, H2) := by
      cases f' with
      | zero => rfl
      | succ f' =>
        show (match u_top c S H2 d (bnr B') with | none => (g, H2) | some r => _) = _
        rw [ut]
    rw [eA]
    exact ⟨hT, h, hH, ⟨rfl, rfl, rfl⟩, fun q hq => by rw [if_neg (no q hq)], fun _ _ _ => rfl, rfl⟩
  | f + 1, f', B, B', g, H, H2, H', k, h, hd, x, hf, ho, hH, c0, c1, q => by
    have h20 := h.1.2.1
    have h8 := h.1.1
    rw [heldR_s] at q
    rcases q with ⟨m, q⟩ | ⟨r, B1, k1, m, p1, q, rfl⟩
    · have no : ∀ q, q < bnr B → ¬ H q = nI d := by
        rcases mtop_v B S8 H d (bnr B) with ⟨-, b⟩ | ⟨r, a, -⟩
        · exact b
        · rw [a] at m
          cases m
      have z0 : hcn B H d = 0 := ic_0 _ fun q hq => decide_eq_false (no q hq)
      exact held_v f f' h hd x hf ho hH (by omega) c1 q
    · obtain ⟨hr, hz⟩ : r < bnr B ∧ H r = nI d := by
        rcases mtop_v B S8 H d (bnr B) with ⟨a, -⟩ | ⟨r', a, b, w⟩
        · rw [a] at m
          cases m
        · rw [a] at m
          cases m
          exact ⟨b, w⟩
      obtain ⟨fr, st0⟩ := hf r hr hz
      have hop : gd g d 8 = 0 := by
        rw [h.op hd, ho r hr fr]
        rfl
      have g6 : gr g r 6 = 0 := (h.st hr).1.trans st0
      have g7 := h.noin hr g6
      have hn : ¬ gr g r 7 = nI d := fun z => nI_ne_m1 (a := d) (by omega) (by rw [← z]; exact g7)
      have h38 := (h.2.1.1 d hd).2.l38 h20 hr hn
      have hj := h.join hd hr g6 hop p1
      obtain ⟨e1, e2, e3, e4, e5, e6⟩ := p1.fr
      have dropH : hcn B1 (upd H r (-1)) d + 1 = hcn B H d := by
        unfold hcn
        rw [e2]
        refine ic_dropb (r := r) ?_ (decide_eq_true hz) _ (fun q hq ne => ?_) hr
        · show decide (upd H r (-1) r = nI d) = false
          rw [ux_s]
          exact decide_eq_false fun z => nI_ne_m1 (a := d) (by omega) z.symm
        · show decide (upd H r (-1) q = nI d) = decide (H q = nI d)
          rw [ux_n ne]
      obtain ⟨f2, rfl⟩ : ∃ f2, f' = f2 + 1 := ⟨f' - 1, by omega⟩
      have ut : u_top c S H2 d (bnr B) = some r := by
        rw [utop_e h x hd (fun q hq z => (hf q hq z).1) hH _ (Nat.le_refl _)]
        exact m
      have ih := held_v f f2 (H2 := upd H2 r (-1)) hj (by omega) (x.of e1 e2) (fun q hq z => by
        have ne : ¬ q = r := fun y => by
          rw [y, ux_s] at z
          exact nI_ne_m1 (a := d) (by omega) z.symm
        rw [ux_n ne] at z
        rw [e4 q ne]
        exact hf q (by omega) z) (fun q hq z => by rw [e3]; exact ho q (by omega) z) (fun q hq => by
        by_cases ne : q = r
        · rw [ne, ux_s, ux_s]
        · rw [ux_n ne, ux_n ne]
          exact hH q (by omega)) (by omega) (by omega) q
      rw [e2] at ih
      obtain ⟨j1, j2, j3, ⟨j4, j5, j6⟩, j7, j8, j9⟩ := ih
      have eT : HeldT c S d (bnr B) (f2 + 1) (g, H2) := by
        show (match u_top c S H2 d (bnr B) with | none => True | some r => Rok g d (rl g d) ∧ (rl g d).length ≤ 38 ∧ HeldT c S d (bnr B) f2 (w_joinG g r d (rl g d), upd H2 r (-1)))
        rw [ut]
        exact ⟨h.rok hd, h38, j1⟩
      have eA : ah c S d (bnr B) (f2 + 1) (g, H2) = ah c S d (bnr B) f2 (w_joinG g r d (rl g d), upd H2 r (-1)) := by
        show (match u_top c S H2 d (bnr B) with | none => (g, H2) | some r => ah c S d (bnr B) f2 (w_joinG g r d (rl g d), upd H2 r (-1))) = _
        rw [ut]
      rw [eA]
      refine ⟨eT, j2, j3, ⟨j4.trans e1, j5, j6.trans e3⟩, fun q hq => ?_, fun q hq ne => ?_, ?_⟩
      · rw [j7 q hq]
        by_cases y : q = r
        · rw [y, ux_s, hz, if_neg (fun z => nI_ne_m1 (a := d) (by omega) z.symm), if_pos rfl]
        · rw [ux_n y]
      · have ne2 : ¬ q = r := fun y => ne (by rw [y]; exact hz)
        rw [j8 q hq (by rw [ux_n ne2]; exact ne), e4 q ne2]
      · rw [j9]
        have s1 : n1c B1 = n1c B + (if (s_best (bT B d) (nI r) (bX B r) (bD B d)).1 = -1 then 0 else 1) := by
          unfold n1c
          rw [e2]
          by_cases z : (s_best (bT B d) (nI r) (bX B r) (bD B d)).1 = -1
          · rw [if_pos z, Nat.add_zero]
            refine ic_c _ fun q hq => ?_
            by_cases y : q = r
            · show decide (qst (bX B1 q) = 1) = decide (qst (bX B q) = 1)
              rw [y, e5 z]
            · show decide (qst (bX B1 q) = 1) = decide (qst (bX B q) = 1)
              rw [e4 q y]
          · rw [if_neg z]
            refine (ic_dropb (r := r) ?_ ?_ _ (fun q hq ne => ?_) hr).symm
            · show decide (qst (bX B r) = 1) = false
              rw [st0]
              decide
            · show decide (qst (bX B1 r) = 1) = true
              rw [e6 z]
              decide
            · show decide (qst (bX B q) = 1) = decide (qst (bX B1 q) = 1)
              rw [e4 q ne]
        rw [s1]
        omega
/-- ALL DRIVERS, one after the other -/
theorem match_v {c : Nat → Int64} {S8 : Nat → Nat → Int32} {S : Nat → Int32} {P0 : HA} {nr nd : Nat} : ∀ (f d : Nat) {B B' : BS} {H : Nat → Int32} {k : Nat}, d + f = nd → bnd B = nd → bnr B = nr → RB B (mt_run c S nr d P0).1 c → Sxs B S8 S → (∀ q e, q < nr → d ≤ e → e < nd → H q = nI e → u_fit S q e = true ∧ qst (bX B q) = 0) → (∀ q e, q < nr → e < nd → u_fit S q e = true → ddo (bD B e) = false) → (∀ q, q < nr → (mt_run c S nr d P0).2 q = H q) → (∀ e, d ≤ e → e < nd → hcn B H e ≤ (dse (bD B e)).toInt.toNat) → MatchR S8 f d B H k B' →
    (∀ j, d ≤ j → j < nd → HeldT c S j nr 20 (mt_run c S nr j P0)) ∧ RB B' (mt_run c S nr nd P0).1 c ∧ n1c B' = n1c B + k ∧ bnr B' = nr
  | 0, d, B, B', H, k, e, e1, e2, h, x, hf, ho, hH, hc, q => by
    obtain ⟨rfl, rfl⟩ := q
    have : d = nd := by omega
    subst this
    exact ⟨fun j a b => absurd b (by omega), h, rfl, e2⟩
  | f + 1, d, B, B', H, k, e, e1, e2, h, x, hf, ho, hH, hc, q => by
    obtain ⟨k1, B1, H1, k2, q1, q2, rfl⟩ := q
    have hd : d < bnd B := by omega
    have h20 := h.1.2.1
    have h8 := h.1.1
    subst e2
    have c20 : hcn B H d ≤ 20 := Nat.le_trans (ic_le _ _) h20
    obtain ⟨i1, i2, i3, ⟨i4, i5, i6⟩, i7, i8, i9⟩ := held_v (dse (bD B d)).toInt.toNat 20 (g := (mt_run c S (bnr B) d P0).1) (H2 := (mt_run c S (bnr B) d P0).2) h hd x (fun q hq z => hf q d hq (Nat.le_refl _) (by omega) z) (fun q hq z => ho q d hq (by omega) z) hH (hc d (Nat.le_refl _) (by omega)) c20 q1
    have em : mt_run c S (bnr B) (d + 1) P0 = ah c S d (bnr B) 20 ((mt_run c S (bnr B) d P0).1, (mt_run c S (bnr B) d P0).2) := rfl
    rw [← em] at i2 i3
    have ne : ∀ q e, q < bnr B → d + 1 ≤ e → e < nd → (H1 q = nI e ↔ H q = nI e) := fun q e hq h1 h2 => by
      rw [i7 q hq]
      by_cases z : H q = nI d
      · rw [if_pos z, z]
        refine ⟨fun y => absurd y.symm (nI_ne_m1 (by omega)), fun y => ?_⟩
        have := (nI_inj (a := d) (b := e) (by omega) (by omega)).mp y
        omega
      · rw [if_neg z]
    have ih := match_v (P0 := P0) (nr := bnr B) (nd := nd) f (d + 1) (H := H1) (by omega) (i4.trans e1) i5 i2 (x.of i4 i5) (fun q e hq h1 h2 z => by
        have z2 := (ne q e hq h1 h2).mp z
        have nd2 : ¬ H q = nI d := fun y => by
          have := (nI_inj (a := d) (b := e) (by omega) (by omega)).mp (y.symm.trans z2)
          omega
        rw [i8 q hq nd2]
        exact hf q e hq (by omega) h2 z2) (fun q e hq he z => by rw [i6]; exact ho q e hq he z) i3 (fun e h1 h2 => by
        rw [i6]
        have : hcn B1 H1 e = hcn B H e := by
          unfold hcn
          rw [i5]
          exact ic_c _ fun q hq => decide_eq_decide.mpr (ne q e hq h1 h2)
        rw [this]
        exact hc e (by omega) h2) q2
    obtain ⟨j1, j2, j3, j4⟩ := ih
    refine ⟨fun j a b => ?_, j2, by rw [j3, i9]; omega, j4⟩
    by_cases z : j = d
    · rw [z]
      exact i1
    · exact j1 j (by omega) b
/-- THE MATCHING -/
theorem RB.match {B : BS} {g : Nat → Int32} {c : Nat → Int64} (h : RB B g c) {M : MS} (eg : gbrd M = g) (ec : gcrd M = c) {S8 : Nat → Nat → Int32} {S : Nat → Int32} (e8 : SolE (b_free B) S8) (eS : SolW (m3_g g (bnr B) (bnd B)) (bnr B) (bnd B) S) :
    AskE (m3_g g (bnr B) (bnd B)) c S (bnr B) (bnd B) 161 (fil (ghol M) (-1) (bnr B), fil (gask M) 0 (bnr B)) ∧ ∀ k B', MatchR S8 (bnd B) 0 (b_free B) (m_run (b_free B) S8 160 (fun _ => -1, fun _ => 0)).1 k B' → (∀ j, j < bnd B → HeldT c S j (bnr B) 20 (mt_run c S (bnr B) j (m3_g g (bnr B) (bnd B), (m_ha M (m3_g g (bnr B) (bnd B)) S (bnr B) (bnd B)).1))) ∧ RB B' (m_fin M (m3_g g (bnr B) (bnd B)) S (bnr B) (bnd B)).1 c ∧ i_count (is1 (m_fin M (m3_g g (bnr B) (bnd B)) S (bnr B) (bnd B)).1) (bnr B) = k ∧ bnr B' = bnr B := by
  subst ec
  obtain ⟨hF, n1⟩ := h.free
  have b1 : bnd (b_free B) = bnd B := rfl
  have b2 : bnr (b_free B) = bnr B := rfl
  have h8 := h.1.1
  have h20 := h.1.2.1
  have x : Sxs (b_free B) S8 S := hF.sxs e8 eS
  have hs : ∀ e, e < bnd (b_free B) → 1 ≤ (dse (bD (b_free B) e)).toInt ∧ (dse (bD (b_free B) e)).toInt ≤ 4 := fun e he => by
    rw [← (hF.1.2.2.2.2.2.1 e he).1]
    exact (hF.2.1.1 e he).1.2.2.1
  have full : bnr (b_free B) * bnd (b_free B) ≤ 160 := Nat.mul_le_mul h20 h8
  have d1 : DA (b_free B) S8 (fun _ => -1) (fun _ => 0) := DA.start h8 (fun _ _ => rfl) fun _ _ => rfl
  have d2 : DA (b_free B) S8 (fil (ghol M) (-1) (bnr B)) (fil (gask M) 0 (bnr B)) := DA.start h8 (fun r hr => if_pos hr) fun r hr => if_pos hr
  obtain ⟨r1, r2⟩ := mrun_v (B := b_free B) (S := S8) h8 h20 hs 160 (fun _ => -1, fun _ => 0) d1 (by omega)
  obtain ⟨a0, a1, a2⟩ := arun_v hF n1 x hs 161 (fil (ghol M) (-1) (bnr B), fil (gask M) 0 (bnr B)) d2 (by omega)
  have s0 : ∀ (A1 A2 : Nat → Int32), (∀ r, r < bnr B → A1 r = 0) → Sub (b_free B) A1 A2 := fun A1 A2 hA r d hr _ z => by
    rw [hA r hr, b_0] at z
    cases z
  have s12 := mrun_sub (B := b_free B) (S := S8) a1 a2 h8 h20 hs 160 (fun _ => -1, fun _ => 0) d1 (s0 _ _ fun _ _ => rfl)
  have s21 := arun_sub hF n1 x hs r1 r2 161 (fil (ghol M) (-1) (bnr B), fil (gask M) 0 (bnr B)) d2 (s0 _ _ fun r hr => if_pos hr)
  have same : ∀ q, q < bnr B → (m_run (b_free B) S8 160 (fun _ => -1, fun _ => 0)).1 q = (m_ha M (m3_g g (bnr B) (bnd B)) S (bnr B) (bnd B)).1 q := fun q hq => DA.same r1 a1 h8 s12 s21 hq
  refine ⟨a0, fun k B' hM => ?_⟩
  generalize m_run (b_free B) S8 160 (fun _ => -1, fun _ => 0) = R1 at r1 r2 s12 s21 same hM
  have hv := match_v (c := gcrd M) (S := S) (P0 := (m3_g g (bnr B) (bnd B), (m_ha M (m3_g g (bnr B) (bnd B)) S (bnr B) (bnd B)).1)) (nr := bnr B) (nd := bnd B) (bnd B) 0 (B := b_free B) (H := R1.1) (by omega) rfl rfl hF x (fun q e hq _ he z => by
      rcases r1.1 q hq with a | ⟨e', p1, p2, p3⟩
      · rw [a] at z
        exact absurd z.symm (nI_ne_m1 (by omega))
      · have : e' = e := (nI_inj (by omega) (by omega)).mp (p2.symm.trans z)
        subst this
        have := r1.2.1 q e' hq p1 p3
        exact ⟨by rw [← x.fit p1 hq]; exact this.2, this.1⟩) (fun q e hq he z => by
      have o := ufit_op eS he hq z
      rw [hF.op he] at o
      exact bI_0.mp o) (fun q hq => (same q hq).symm) (fun e _ he => r1.2.2.2.2 e he) hM
  obtain ⟨v1, v2, v3, er⟩ := hv
  have z0 : n1c (b_free B) = 0 := ic_0 _ fun q hq => by
    show decide (qst (bX (b_free B) q) = 1) = false
    rw [← (hF.st hq).1]
    exact decide_eq_false (n1 q hq)
  refine ⟨fun j hj => v1 j (Nat.zero_le _) hj, v2, ?_, er⟩
  rw [z0, Nat.zero_add] at v3
  rw [← v3]
  unfold n1c
  rw [er]
  exact ic_c _ fun q hq => by
    show decide (gr _ q 6 = 1) = _
    rw [← (v2.st (by omega)).1]
    rfl
set_option maxRecDepth 100000 in
set_option maxHeartbeats 4000000 in
theorem sr_match {K : KX} {c : Nat} : ∀ (n : Nat) (h : MH), Jv Rel c n h → StepD K c (c + 176) mX10_match [.ref c] mX11_match [.ref (c + 176)] (Jv Rel c) n h := by
  intro n h  j0
  obtain ⟨P, M, f, cp, mm, ho, hn, hr⟩ := j0
  have hB := hr.1
  obtain ⟨⟨f8, f20, g0, g1, g2, fd, fr⟩, ft⟩ := Rel.hasF.1 P M hr
  obtain ⟨fs, hc⟩ := cp.obj
  have eb : bnr (b_free (pB P)) = bnr (pB P) := rfl
  obtain ⟨k0, B0, m0⟩ := matchR_ex (b_solo (b_free (pB P))) (bnd (pB P)) 0 (b_free (pB P)) (m_run (b_free (pB P)) (b_solo (b_free (pB P))) 160 (fun _ => -1, fun _ => 0)).1
  have M8 := fun {S8 : Nat → Nat → Int32} {S : Nat → Int32} (e8 : SolE (b_free (pB P)) S8) (eS : SolW (m3_g (gbrd M) (bnr (pB P)) (bnd (pB P))) (bnr (pB P)) (bnd (pB P)) S) => hB.match (M := M) rfl rfl e8 eS
  have SC : SolW (m3_g (gbrd M) (bnr (pB P)) (bnd (pB P))) (bnr (pB P)) (bnd (pB P)) (solC (m3_g (gbrd M) (bnr (pB P)) (bnd (pB P)))) := solC_ok _ _ f8
  refine gl_D2 (v := nI k0) (QQ := fun P9 => ∃ S8 k B', SolE (b_free (pB P)) S8 ∧ MatchR S8 (bnd (pB P)) 0 (b_free (pB P)) (m_run (b_free (pB P)) S8 160 (fun _ => -1, fun _ => 0)).1 k B' ∧ P9 = p_setB P B') (TT := fun M9 => ∃ S H A, SolW (m3_g (gbrd M) (bnr (pB P)) (bnd (pB P))) (bnr (pB P)) (bnd (pB P)) S ∧ M9 = mtS (sthr M 0) (m_fin M (m3_g (gbrd M) (bnr (pB P)) (bnd (pB P))) S (bnr (pB P)) (bnd (pB P))).1 S H A) (PP := fun h' => ∃ S8 k B', SolE (b_free (pB P)) S8 ∧ MatchR S8 (bnd (pB P)) 0 (b_free (pB P)) (m_run (b_free (pB P)) S8 160 (fun _ => -1, fun _ => 0)).1 k B' ∧ CpE h h' n c (p_setB P B')) cp mm ho hn (Nat.le_refl _) (by omega) (by omega) ((cn_X10_match cp hB.tok).mono fun r9 n9 h9 q => ?_) (fun h' e => ?_) (fun h1 x => ?_) (fun P9 M9 e1 e2 => ?_)
  · obtain ⟨S8, k, B', s1, m1, e1, e2, e3⟩ := q
    refine ⟨?_, e2, S8, k, B', s1, m1, e3⟩
    have q1 := ((M8 s1 SC).2 k B' m1).2.2.1
    have q2 := ((M8 (solB_ok _) SC).2 k0 B0 m0).2.2.1
    rw [e1, show k = k0 from q1.symm.trans q2]
  · obtain ⟨S8, k, B', s1, m1, e1⟩ := e
    exact ⟨e1.2.s, _, e1.1, S8, k, B', s1, m1, rfl⟩
  · refine (cs_match (K := K) (n := n) x g2 f20 g1 f8 (fun S hS => (M8 (solB_ok _) hS).1) (fun S hS j hj => ((M8 (solB_ok _) hS).2 k0 B0 m0).1 j hj)).mono fun r9 n9 h9 q => ?_
    obtain ⟨S, s1, e1, e2, H, A, e3⟩ := q
    refine ⟨?_, e2, _, ⟨S, H, A, s1, rfl⟩, e3⟩
    rw [e1, ((M8 (solB_ok _) s1).2 k0 B0 m0).2.2.1]
  · obtain ⟨S8, k, B', s1, m1, rfl⟩ := e1
    obtain ⟨S, H, A, s2, rfl⟩ := e2
    exact ⟨((M8 s1 s2).2 k B' m1).2.1, hr.2⟩

