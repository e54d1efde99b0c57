/-- .. and what a search stands on -/
def HasS (R : CS → MS → Prop) : Prop := HasF R ∧ ∀ P M, R P M → ∃ L : Nat → List Int32, ∀ d, d < bnd (pB P) → Rok (gbrd M) d (L d) ∧ ∀ r, r < bnr (pB P) → SHyp (gbrd M) d r (bT (pB P) d) (L d) (bX (pB P) r) (bD (pB P) d)
set_option maxRecDepth 100000 in
set_option maxHeartbeats 4000000 in
theorem st_soloExtra {K : KX} {c : Nat} {R : CS → MS → Prop} (hF : HasS R) : ∀ (n : Nat) (h : MH) (p1 p2 : Int32), Jv R c n h → StepI K (c + 176) (c + 192) mL_soloExtra [.ref c, .int p1, .int p2, .ref (c + 192)] mX11_soloExtra [.ref (c + 176), .int p1, .int p2] (Jv R c) n h := by
  intro n h p1 p2 j0
  obtain ⟨P, M, f, cp, mm, ho, hn, hr⟩ := j0
  obtain ⟨⟨f8, f20, g0, g1, g2, fd, fr⟩, ft⟩ := hF.1.1 P M hr
  have hs := hF.1.2 P M
  obtain ⟨L, hL⟩ := hF.2 P M hr
  obtain ⟨fs, hc⟩ := cp.obj
  by_cases hb : b_in p1 0 (nI (bnr (pB P)) - 1) = true
  · obtain ⟨r, hr9, rfl⟩ := (bin_ix (by omega)).mp hb
    have hb1 : b_in (nI r) 0 (gbrd M 2 - 1) = true := by rw [g2]; exact hb
    by_cases hj : b_in p2 0 (nI (bnd (pB P)) - 1) = true
    · obtain ⟨d, hd, rfl⟩ := (bin_ix (by omega)).mp hj
      obtain ⟨ok, hS⟩ := hL d hd
      have H := hS r hr9
      refine gl_I (M' := sthr M 0) (QQ := fun P9 => P9 = P) mm ho hn (Nat.le_refl _) (by omega) (by omega) (cn_X10_soloExtra cp rfl hr9 rfl hd (by rw [H.1.1]; omega)) (fun Q' q1 q2 q3 q4 => cl_soloExtra hc q1 q2 q3 q4) (fun h' e => ⟨e.2.s, P, e.1, rfl⟩) (fun h1 x => ?_) rfl (fun P9 e => by cases e; exact hs _ hr)
      have q := cs_soloExtra (K := K) (n := n) x (show r < _ by omega) hb1 (show d < _ by omega) (by rw [g1]; exact hj)
      rw [H.solo] at q
      exact q
    · have hj := bin_ne hj
      exact gx_I (M' := sthr M 1) (j := 0) (QQ := fun P9 => P9 = P) mm ho hn (Nat.le_refl _) (by omega) (by omega) (cn_X10_soloExtra_nod cp rfl hr9 hj) (fun Q' q1 q2 q3 q4 => cl_soloExtra hc q1 q2 q3 q4) rfl (fun j' e => jIE e) (by decide) (fun h' e => by cases e; exact ⟨fun _ _ _ => rfl, P, cp, rfl⟩) (fun n1 h1 x => cs_soloExtra_nod x (show r < _ by omega) hb1 (by rw [g1]; exact hj)) rfl (fun P9 e => by cases e; exact hs _ hr)
  · have hb := bin_ne hb
    exact gx_I (M' := sthr M 1) (j := 0) (QQ := fun P9 => P9 = P) mm ho hn (Nat.le_refl _) (by omega) (by omega) (cn_X10_soloExtra_nor cp hb) (fun Q' q1 q2 q3 q4 => cl_soloExtra hc q1 q2 q3 q4) rfl (fun j' e => jIE e) (by decide) (fun h' e => by cases e; exact ⟨fun _ _ _ => rfl, P, cp, rfl⟩) (fun n1 h1 x => cs_soloExtra_nor x (by rw [g2]; exact hb)) rfl (fun P9 e => by cases e; exact hs _ hr)
