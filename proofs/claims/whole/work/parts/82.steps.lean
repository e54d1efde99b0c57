/-- .. and the routes -/
def HasR (R : CS → MS → Prop) : Prop := HasF R ∧ ∀ P M, R P M → ∃ L : Nat → List Int32, ∀ d, d < bnd (pB P) → Rok (gbrd M) d (L d) ∧ RtX (gbrd M) d (bT (pB P) d) (L d) ∧ RIn (bT (pB P) d)
theorem RtX.ends {g : Nat → Int32} {d : Nat} {R : RS} {l : List Int32} (h : RtX g d R l) (k : Rok g d l) : nI (rn R) - 1 = gd g d 9 + 1 := by
  rw [h.1, k.1, nI_p]
  exact (nI_add l.length 1).symm
theorem RtX.cnt {g : Nat → Int32} {d : Nat} {R : RS} {l : List Int32} (h : RtX g d R l) (k : Rok g d l) : gd g d 9 + 2 = nI (rn R) := by
  rw [h.1, k.1]
  exact nI_add l.length 2
theorem RtX.stop {g : Nat → Int32} {d : Nat} {R : RS} {l : List Int32} (h : RtX g d R l) {t : Nat} (ht : t < rn R) : w_stop l t = rc R t := by
  rw [h.1] at ht
  unfold w_stop
  match t, ht with
  | 0, _ => rw [if_pos rfl]; exact h.2.2.2.1.symm
  | t + 1, ht =>
    rw [if_neg (by omega)]
    by_cases e : t + 1 = l.length + 1
    · rw [if_pos e, e]
      exact h.2.2.2.2.1.symm
    · rw [if_neg e]
      exact (h.2.2.2.2.2 t (by omega)).1.symm
set_option maxRecDepth 100000 in
set_option maxHeartbeats 4000000 in
theorem st_stopCount {K : KX} {c : Nat} {R : CS → MS → Prop} (hF : HasR R) : ∀ (n : Nat) (h : MH) (p1 : Int32), Jv R c n h → StepI K (c + 176) (c + 192) mL_stopCount [.ref c, .int p1, .ref (c + 192)] mX11_stopCount [.ref (c + 176), .int p1] (Jv R c) n h := by
  intro n h p1 j0
  obtain ⟨P, M, f, cp, mm, ho, hn, hr⟩ := j0
  obtain ⟨⟨f8, f20, g0, g1, g2, fd, fr⟩, ft⟩ := hF.1.1 P M hr
  have hs := hF.1.2 P M
  obtain ⟨L, hL⟩ := hF.2 P M hr
  obtain ⟨fs, hc⟩ := cp.obj
  by_cases hb : b_in p1 0 (nI (bnd (pB P)) - 1) = true
  · obtain ⟨d, hd, rfl⟩ := (bin_ix (by omega)).mp hb
    obtain ⟨ok, tx, ri⟩ := hL d hd
    have h2 : 2 ≤ rn (bT (pB P) d) := by rw [tx.1]; omega
    refine gl_I (M' := sthr M 0) (QQ := fun P9 => P9 = P) mm ho hn (Nat.le_refl _) (by omega) (by omega) (cn_X10_stopCount cp rfl hd) (fun Q' q1 q2 q3 q4 => cl_stopCount hc q1 q2 q3 q4) (fun h' e => by cases e; exact ⟨fun _ _ _ => rfl, P, cp, rfl⟩) (fun h1 x => ?_) rfl (fun P9 e => by cases e; exact hs _ hr)
    have q := cs_stopCount (K := K) (n := n) x (show d < _ by omega) (by rw [g1]; exact hb)
    rw [tx.cnt ok] at q
    exact q
  · have hb := bin_ne hb
    exact gx_I (M' := sthr M 1) (j := 0) (QQ := fun P9 => P9 = P) mm ho hn (Nat.le_refl _) (by omega) (by omega) (cn_X10_stopCount_no cp hb) (fun Q' q1 q2 q3 q4 => cl_stopCount hc q1 q2 q3 q4) rfl (fun j' e => jIE e) (by decide) (fun h' e => by cases e; exact ⟨fun _ _ _ => rfl, P, cp, rfl⟩) (fun n1 h1 x => cs_stopCount_no x (by rw [g1]; exact hb)) rfl (fun P9 e => by cases e; exact hs _ hr)
set_option maxRecDepth 100000 in
set_option maxHeartbeats 4000000 in
theorem st_routeLength {K : KX} {c : Nat} {R : CS → MS → Prop} (hF : HasR R) : ∀ (n : Nat) (h : MH) (p1 : Int32), Jv R c n h → StepI K (c + 176) (c + 192) mL_routeLength [.ref c, .int p1, .ref (c + 192)] mX11_routeLength [.ref (c + 176), .int p1] (Jv R c) n h := by
  intro n h p1 j0
  obtain ⟨P, M, f, cp, mm, ho, hn, hr⟩ := j0
  obtain ⟨⟨f8, f20, g0, g1, g2, fd, fr⟩, ft⟩ := hF.1.1 P M hr
  have hs := hF.1.2 P M
  obtain ⟨L, hL⟩ := hF.2 P M hr
  obtain ⟨fs, hc⟩ := cp.obj
  by_cases hb : b_in p1 0 (nI (bnd (pB P)) - 1) = true
  · obtain ⟨d, hd, rfl⟩ := (bin_ix (by omega)).mp hb
    obtain ⟨ok, tx, ri⟩ := hL d hd
    have h2 : 2 ≤ rn (bT (pB P) d) := by rw [tx.1]; omega
    refine gl_I (M' := sthr M 0) (QQ := fun P9 => P9 = P) mm ho hn (Nat.le_refl _) (by omega) (by omega) (cn_X10_routeLength cp rfl hd h2) (fun Q' q1 q2 q3 q4 => cl_routeLength hc q1 q2 q3 q4) (fun h' e => by cases e; exact ⟨fun _ _ _ => rfl, P, cp, rfl⟩) (fun h1 x => ?_) rfl (fun P9 e => by cases e; exact hs _ hr)
    have q := cs_routeLength (K := K) (n := n) x (show d < _ by omega) (by rw [g1]; exact hb) ok
    rw [tx.len ri ok.2.2.2] at q
    exact q
  · have hb := bin_ne hb
    exact gx_I (M' := sthr M 1) (j := 0) (QQ := fun P9 => P9 = P) mm ho hn (Nat.le_refl _) (by omega) (by omega) (cn_X10_routeLength_no cp hb) (fun Q' q1 q2 q3 q4 => cl_routeLength hc q1 q2 q3 q4) rfl (fun j' e => jIE e) (by decide) (fun h' e => by cases e; exact ⟨fun _ _ _ => rfl, P, cp, rfl⟩) (fun n1 h1 x => cs_routeLength_no x (by rw [g1]; exact hb)) rfl (fun P9 e => by cases e; exact hs _ hr)
set_option maxRecDepth 100000 in
set_option maxHeartbeats 4000000 in
theorem st_detour {K : KX} {c : Nat} {R : CS → MS → Prop} (hF : HasR R) : ∀ (n : Nat) (h : MH) (p1 : Int32), Jv R c n h → StepI K (c + 176) (c + 192) mL_detour [.ref c, .int p1, .ref (c + 192)] mX11_detour [.ref (c + 176), .int p1] (Jv R c) n h := by
  intro n h p1 j0
  obtain ⟨P, M, f, cp, mm, ho, hn, hr⟩ := j0
  obtain ⟨⟨f8, f20, g0, g1, g2, fd, fr⟩, ft⟩ := hF.1.1 P M hr
  have hs := hF.1.2 P M
  obtain ⟨L, hL⟩ := hF.2 P M hr
  obtain ⟨fs, hc⟩ := cp.obj
  by_cases hb : b_in p1 0 (nI (bnd (pB P)) - 1) = true
  · obtain ⟨d, hd, rfl⟩ := (bin_ix (by omega)).mp hb
    obtain ⟨ok, tx, ri⟩ := hL d hd
    have h2 : 2 ≤ rn (bT (pB P) d) := by rw [tx.1]; omega
    refine gl_I (M' := sthr M 0) (QQ := fun P9 => P9 = P) mm ho hn (Nat.le_refl _) (by omega) (by omega) (cn_X10_detour cp rfl hd h2) (fun Q' q1 q2 q3 q4 => cl_detour hc q1 q2 q3 q4) (fun h' e => by cases e; exact ⟨fun _ _ _ => rfl, P, cp, rfl⟩) (fun h1 x => ?_) rfl (fun P9 e => by cases e; exact hs _ hr)
    have q := cs_detour (K := K) (n := n) x (show d < _ by omega) (by rw [g1]; exact hb) ok
    rw [tx.len ri ok.2.2.2, tx.dir ri] at q
    exact q
  · have hb := bin_ne hb
    exact gx_I (M' := sthr M 1) (j := 0) (QQ := fun P9 => P9 = P) mm ho hn (Nat.le_refl _) (by omega) (by omega) (cn_X10_detour_no cp hb) (fun Q' q1 q2 q3 q4 => cl_detour hc q1 q2 q3 q4) rfl (fun j' e => jIE e) (by decide) (fun h' e => by cases e; exact ⟨fun _ _ _ => rfl, P, cp, rfl⟩) (fun n1 h1 x => cs_detour_no x (by rw [g1]; exact hb)) rfl (fun P9 e => by cases e; exact hs _ hr)
set_option maxRecDepth 100000 in
set_option maxHeartbeats 4000000 in
theorem st_tripCost {K : KX} {c : Nat} {R : CS → MS → Prop} (hF : HasR R) : ∀ (n : Nat) (h : MH) (p1 : Int32), Jv R c n h → StepI K (c + 176) (c + 192) mL_tripCost [.ref c, .int p1, .ref (c + 192)] mX11_tripCost [.ref (c + 176), .int p1] (Jv R c) n h := by
  intro n h p1 j0
  obtain ⟨P, M, f, cp, mm, ho, hn, hr⟩ := j0
  obtain ⟨⟨f8, f20, g0, g1, g2, fd, fr⟩, ft⟩ := hF.1.1 P M hr
  have hs := hF.1.2 P M
  obtain ⟨L, hL⟩ := hF.2 P M hr
  obtain ⟨fs, hc⟩ := cp.obj
  by_cases hb : b_in p1 0 (nI (bnd (pB P)) - 1) = true
  · obtain ⟨d, hd, rfl⟩ := (bin_ix (by omega)).mp hb
    obtain ⟨ok, tx, ri⟩ := hL d hd
    have h2 : 2 ≤ rn (bT (pB P) d) := by rw [tx.1]; omega
    refine gl_I (M' := sthr M 0) (QQ := fun P9 => P9 = P) mm ho hn (Nat.le_refl _) (by omega) (by omega) (cn_X10_tripCost cp rfl hd h2) (fun Q' q1 q2 q3 q4 => cl_tripCost hc q1 q2 q3 q4) (fun h' e => by cases e; exact ⟨fun _ _ _ => rfl, P, cp, rfl⟩) (fun h1 x => ?_) rfl (fun P9 e => by cases e; exact hs _ hr)
    have q := cs_tripCost (K := K) (n := n) x (show d < _ by omega) (by rw [g1]; exact hb) ok
    rw [tx.len ri ok.2.2.2, (fd d hd).2.2.2.1] at q
    exact q
  · have hb := bin_ne hb
    exact gx_I (M' := sthr M 1) (j := 0) (QQ := fun P9 => P9 = P) mm ho hn (Nat.le_refl _) (by omega) (by omega) (cn_X10_tripCost_no cp hb) (fun Q' q1 q2 q3 q4 => cl_tripCost hc q1 q2 q3 q4) rfl (fun j' e => jIE e) (by decide) (fun h' e => by cases e; exact ⟨fun _ _ _ => rfl, P, cp, rfl⟩) (fun n1 h1 x => cs_tripCost_no x (by rw [g1]; exact hb)) rfl (fun P9 e => by cases e; exact hs _ hr)
set_option maxRecDepth 100000 in
set_option maxHeartbeats 4000000 in
theorem st_stopRider {K : KX} {c : Nat} {R : CS → MS → Prop} (hF : HasR R) : ∀ (n : Nat) (h : MH) (p1 p2 : Int32), Jv R c n h → StepI K (c + 176) (c + 192) mL_stopRider [.ref c, .int p1, .int p2, .ref (c + 192)] mX11_stopRider [.ref (c + 176), .int p1, .int p2] (Jv R c) n h := by
  intro n h p1 p2 j0
  obtain ⟨P, M, f, cp, mm, ho, hn, hr⟩ := j0
  obtain ⟨⟨f8, f20, g0, g1, g2, fd, fr⟩, ft⟩ := hF.1.1 P M hr
  have hs := hF.1.2 P M
  obtain ⟨L, hL⟩ := hF.2 P M hr
  obtain ⟨fs, hc⟩ := cp.obj
  by_cases hb : b_in p1 0 (nI (bnd (pB P)) - 1) = true
  · obtain ⟨d, hd, rfl⟩ := (bin_ix (by omega)).mp hb
    obtain ⟨ok, tx, ri⟩ := hL d hd
    have h42 : rn (bT (pB P) d) ≤ 42 := by
      rw [tx.1]
      have := ok.2.2.1
      omega
    have hb1 : b_in (nI d) 0 (gbrd M 1 - 1) = true := by rw [g1]; exact hb
    by_cases hj : b_in p2 0 (nI (rn (bT (pB P) d)) - 1) = true
    · obtain ⟨t, ht, rfl⟩ := (bin_ix42 h42).mp hj
      refine gl_I (M' := sthr M 0) (QQ := fun P9 => P9 = P) mm ho hn (Nat.le_refl _) (by omega) (by omega) (cn_X10_stopRider cp rfl hd rfl ht) (fun Q' q1 q2 q3 q4 => cl_stopRider hc q1 q2 q3 q4) (fun h' e => by cases e; exact ⟨fun _ _ _ => rfl, P, cp, rfl⟩) (fun h1 x => ?_) rfl (fun P9 e => by cases e; exact hs _ hr)
      have q := cs_stopRider (K := K) (n := n) x (show d < _ by omega) hb1 ok (t := t) (by rw [← tx.ends ok]; exact hj) (by rw [tx.1] at ht; omega)
      rw [tx.stop ht] at q
      exact q
    · have hj := bin_ne hj
      exact gx_I (M' := sthr M 1) (j := 0) (QQ := fun P9 => P9 = P) mm ho hn (Nat.le_refl _) (by omega) (by omega) (cn_X10_stopRider_nos cp rfl hd hj) (fun Q' q1 q2 q3 q4 => cl_stopRider hc q1 q2 q3 q4) rfl (fun j' e => jIE e) (by decide) (fun h' e => by cases e; exact ⟨fun _ _ _ => rfl, P, cp, rfl⟩) (fun n1 h1 x => cs_stopRider_nos x (show d < _ by omega) hb1 (by rw [← tx.ends ok]; exact hj)) rfl (fun P9 e => by cases e; exact hs _ hr)
  · have hb := bin_ne hb
    exact gx_I (M' := sthr M 1) (j := 0) (QQ := fun P9 => P9 = P) mm ho hn (Nat.le_refl _) (by omega) (by omega) (cn_X10_stopRider_nod cp hb) (fun Q' q1 q2 q3 q4 => cl_stopRider hc q1 q2 q3 q4) rfl (fun j' e => jIE e) (by decide) (fun h' e => by cases e; exact ⟨fun _ _ _ => rfl, P, cp, rfl⟩) (fun n1 h1 x => cs_stopRider_nod x (by rw [g1]; exact hb)) rfl (fun P9 e => by cases e; exact hs _ hr)
set_option maxRecDepth 100000 in
set_option maxHeartbeats 4000000 in
theorem st_arrival {K : KX} {c : Nat} {R : CS → MS → Prop} (hF : HasR R) : ∀ (n : Nat) (h : MH) (p1 p2 : Int32), Jv R c n h → StepI K (c + 176) (c + 192) mL_arrival [.ref c, .int p1, .int p2, .ref (c + 192)] mX11_arrival [.ref (c + 176), .int p1, .int p2] (Jv R c) n h := by
  intro n h p1 p2 j0
  obtain ⟨P, M, f, cp, mm, ho, hn, hr⟩ := j0
  obtain ⟨⟨f8, f20, g0, g1, g2, fd, fr⟩, ft⟩ := hF.1.1 P M hr
  have hs := hF.1.2 P M
  obtain ⟨L, hL⟩ := hF.2 P M hr
  obtain ⟨fs, hc⟩ := cp.obj
  by_cases hb : b_in p1 0 (nI (bnd (pB P)) - 1) = true
  · obtain ⟨d, hd, rfl⟩ := (bin_ix (by omega)).mp hb
    obtain ⟨ok, tx, ri⟩ := hL d hd
    have h42 : rn (bT (pB P) d) ≤ 42 := by
      rw [tx.1]
      have := ok.2.2.1
      omega
    have hb1 : b_in (nI d) 0 (gbrd M 1 - 1) = true := by rw [g1]; exact hb
    by_cases hj : b_in p2 0 (nI (rn (bT (pB P) d)) - 1) = true
    · obtain ⟨t, ht, rfl⟩ := (bin_ix42 h42).mp hj
      refine gl_I (M' := sthr M 0) (QQ := fun P9 => P9 = P) mm ho hn (Nat.le_refl _) (by omega) (by omega) (cn_X10_arrival cp rfl hd rfl ht) (fun Q' q1 q2 q3 q4 => cl_arrival hc q1 q2 q3 q4) (fun h' e => by cases e; exact ⟨fun _ _ _ => rfl, P, cp, rfl⟩) (fun h1 x => ?_) rfl (fun P9 e => by cases e; exact hs _ hr)
      have q := cs_arrival (K := K) (n := n) x (show d < _ by omega) hb1 ok (t := t) (by rw [← tx.ends ok]; exact hj) (by rw [tx.1] at ht; omega)
      rw [tx.arr ri ok.2.2.2 ht, (fd d hd).2.1] at q
      exact q
    · have hj := bin_ne hj
      exact gx_I (M' := sthr M 1) (j := 0) (QQ := fun P9 => P9 = P) mm ho hn (Nat.le_refl _) (by omega) (by omega) (cn_X10_arrival_nos cp rfl hd hj) (fun Q' q1 q2 q3 q4 => cl_arrival hc q1 q2 q3 q4) rfl (fun j' e => jIE e) (by decide) (fun h' e => by cases e; exact ⟨fun _ _ _ => rfl, P, cp, rfl⟩) (fun n1 h1 x => cs_arrival_nos x (show d < _ by omega) hb1 (by rw [← tx.ends ok]; exact hj)) rfl (fun P9 e => by cases e; exact hs _ hr)
  · have hb := bin_ne hb
    exact gx_I (M' := sthr M 1) (j := 0) (QQ := fun P9 => P9 = P) mm ho hn (Nat.le_refl _) (by omega) (by omega) (cn_X10_arrival_nod cp hb) (fun Q' q1 q2 q3 q4 => cl_arrival hc q1 q2 q3 q4) rfl (fun j' e => jIE e) (by decide) (fun h' e => by cases e; exact ⟨fun _ _ _ => rfl, P, cp, rfl⟩) (fun n1 h1 x => cs_arrival_nod x (by rw [g1]; exact hb)) rfl (fun P9 e => by cases e; exact hs _ hr)
