/-- THE FIELDS: the class's board B, the reference's array g and credits cr -/
def FB (B : BS) (g : Nat → Int32) (cr : Nat → Int64) : Prop := bnd B ≤ 8 ∧ bnr B ≤ 20 ∧ g 0 = bpe B ∧ g 1 = nI (bnd B) ∧ g 2 = nI (bnr B) ∧
  (∀ d, d < bnd B → gd g d 4 = dse (bD B d) ∧ gd g d 5 = dde (bD B d) ∧ gd g d 6 = dli (bD B d) ∧ gd g d 7 = dra (bD B d) ∧ gd g d 8 = bI (ddo (bD B d)) ∧ cr d = dcr (bD B d)) ∧
  (∀ r, r < bnr B → gr g r 0 = qfx (bX B r) ∧ gr g r 1 = qfy (bX B r) ∧ gr g r 2 = qtx (bX B r) ∧ gr g r 3 = qty (bX B r) ∧ gr g r 4 = qrd (bX B r) ∧ gr g r 5 = qdl (bX B r) ∧ gr g r 6 = qst (bX B r) ∧ gr g r 7 = qdr (bX B r) ∧ cr (8 + r) = qcr (bX B r))
/-- the text and what the last load found -/
def FT (P : CS) (M : MS) : Prop := pL P ≤ 600 ∧ gtl M = nI (pL P) ∧ (∀ k, k < pL P → gtxt M k = pT P k) ∧ gec M = pfc P ∧ gep M = pfp P
/-- what a relation has: the fields; and what is thrown plays no part in it -/
def HasF (R : CS → MS → Prop) : Prop := (∀ P M, R P M → FB (pB P) (gbrd M) (gcrd M) ∧ FT P M) ∧ ∀ P M v, R P M → R P (sthr M v)
theorem bI_dec (b : Bool) : (!decide (bI b = 0)) = b := by cases b <;> decide
theorem jIE {E : String} {j : Nat} (h : (["java/lang/IndexOutOfBoundsException"] : List String)[j]? = some E) : j = 0 := by
  match j, h with
  | 0, _ => rfl
  | j + 1, h => simp at h
theorem bin_ne {i : Int32} {m : Nat} (h : ¬ b_in i 0 (nI m - 1) = true) : b_in i 0 (nI m - 1) = false := by
  cases e : b_in i 0 (nI m - 1)
  · rfl
  · exact absurd e h
theorem thr0 (M : MS) (v : Int32) : gthr (sthr M v) = v := rfl
set_option maxRecDepth 100000 in
set_option maxHeartbeats 4000000 in
theorem st_isDone {K : KX} {c : Nat} {R : CS → MS → Prop} (hF : HasF R) : ∀ (n : Nat) (h : MH) (p1 : Int32), Jv R c n h → StepZ K (c + 176) (c + 192) mL_isDone [.ref c, .int p1, .ref (c + 192)] mX11_isDone [.ref (c + 176), .int p1] (Jv R c) n h := by
  intro n h p1 j0
  obtain ⟨P, M, f, cp, mm, ho, hn, hr⟩ := j0
  obtain ⟨⟨f8, f20, g0, g1, g2, fd, fr⟩, ft⟩ := hF.1 P M hr
  have hs := hF.2 P M
  obtain ⟨fs, hc⟩ := cp.obj
  by_cases hb : b_in p1 0 (nI (bnd (pB P)) - 1) = true
  · obtain ⟨d, hd, rfl⟩ := (bin_ix (by omega)).mp hb
    refine gl_Z (M' := sthr M 0) (QQ := fun P9 => P9 = P) mm ho hn (Nat.le_refl _) (by omega) (by omega) (cn_X10_isDone cp rfl hd) (fun Q' q1 q2 q3 q4 => cl_isDone hc q1 q2 q3 q4) (fun h' e => by cases e; exact ⟨fun _ _ _ => rfl, P, cp, rfl⟩) (fun h1 x => ?_) rfl (fun P9 e => by cases e; exact hs _ hr)
    have q := cs_isDone (K := K) (n := n) x (show d < _ by omega) (by rw [g1]; exact hb)
    rw [(fd d hd).2.2.2.2.1, bI_dec] at q
    exact q
  · have hb := bin_ne hb
    exact gx_Z (v := false) (M' := sthr M 1) (j := 0) (QQ := fun P9 => P9 = P) mm ho hn (Nat.le_refl _) (by omega) (by omega) (cn_X10_isDone_no cp hb) (fun Q' q1 q2 q3 q4 => cl_isDone hc q1 q2 q3 q4) rfl (fun j' e => jIE e) (by decide) (fun h' e => by cases e; exact ⟨fun _ _ _ => rfl, P, cp, rfl⟩) (fun n1 h1 x => cs_isDone_no x (by rw [g1]; exact hb)) rfl (fun P9 e => by cases e; exact hs _ hr)
set_option maxRecDepth 100000 in
set_option maxHeartbeats 4000000 in
theorem st_driverCredit {K : KX} {c : Nat} {R : CS → MS → Prop} (hF : HasF R) : ∀ (n : Nat) (h : MH) (p1 : Int32), Jv R c n h → StepJ K (c + 176) (c + 192) mL_driverCredit [.ref c, .int p1, .ref (c + 192)] mX11_driverCredit [.ref (c + 176), .int p1] (Jv R c) n h := by
  intro n h p1 j0
  obtain ⟨P, M, f, cp, mm, ho, hn, hr⟩ := j0
  obtain ⟨⟨f8, f20, g0, g1, g2, fd, fr⟩, ft⟩ := hF.1 P M hr
  have hs := hF.2 P M
  obtain ⟨fs, hc⟩ := cp.obj
  by_cases hb : b_in p1 0 (nI (bnd (pB P)) - 1) = true
  · obtain ⟨d, hd, rfl⟩ := (bin_ix (by omega)).mp hb
    refine gl_J (M' := sthr M 0) (QQ := fun P9 => P9 = P) mm ho hn (Nat.le_refl _) (by omega) (by omega) (cn_X10_driverCredit cp rfl hd) (fun Q' q1 q2 q3 q4 => cl_driverCredit hc q1 q2 q3 q4) (fun h' e => by cases e; exact ⟨fun _ _ _ => rfl, P, cp, rfl⟩) (fun h1 x => ?_) rfl (fun P9 e => by cases e; exact hs _ hr)
    have q := cs_driverCredit (K := K) (n := n) x (show d < _ by omega) (by rw [g1]; exact hb)
    rw [(fd d hd).2.2.2.2.2] at q
    exact q
  · have hb := bin_ne hb
    exact gx_J (M' := sthr M 1) (j := 0) (QQ := fun P9 => P9 = P) mm ho hn (Nat.le_refl _) (by omega) (by omega) (cn_X10_driverCredit_no cp hb) (fun Q' q1 q2 q3 q4 => cl_driverCredit hc q1 q2 q3 q4) rfl (fun j' e => jIE e) (by decide) (fun h' e => by cases e; exact ⟨fun _ _ _ => rfl, P, cp, rfl⟩) (fun n1 h1 x => cs_driverCredit_no x (by rw [g1]; exact hb)) rfl (fun P9 e => by cases e; exact hs _ hr)
set_option maxRecDepth 100000 in
set_option maxHeartbeats 4000000 in
theorem st_riderState {K : KX} {c : Nat} {R : CS → MS → Prop} (hF : HasF R) : ∀ (n : Nat) (h : MH) (p1 : Int32), Jv R c n h → StepI K (c + 176) (c + 192) mL_riderState [.ref c, .int p1, .ref (c + 192)] mX11_riderState [.ref (c + 176), .int p1] (Jv R c) n h := by
  intro n h p1 j0
  obtain ⟨P, M, f, cp, mm, ho, hn, hr⟩ := j0
  obtain ⟨⟨f8, f20, g0, g1, g2, fd, fr⟩, ft⟩ := hF.1 P M hr
  have hs := hF.2 P M
  obtain ⟨fs, hc⟩ := cp.obj
  by_cases hb : b_in p1 0 (nI (bnr (pB P)) - 1) = true
  · obtain ⟨d, hd, rfl⟩ := (bin_ix (by omega)).mp hb
    refine gl_I (M' := sthr M 0) (QQ := fun P9 => P9 = P) mm ho hn (Nat.le_refl _) (by omega) (by omega) (cn_X10_riderState cp rfl hd) (fun Q' q1 q2 q3 q4 => cl_riderState hc q1 q2 q3 q4) (fun h' e => by cases e; exact ⟨fun _ _ _ => rfl, P, cp, rfl⟩) (fun h1 x => ?_) rfl (fun P9 e => by cases e; exact hs _ hr)
    have q := cs_riderState (K := K) (n := n) x (show d < _ by omega) (by rw [g2]; exact hb)
    rw [(fr d hd).2.2.2.2.2.2.1] at q
    exact q
  · have hb := bin_ne hb
    exact gx_I (M' := sthr M 1) (j := 0) (QQ := fun P9 => P9 = P) mm ho hn (Nat.le_refl _) (by omega) (by omega) (cn_X10_riderState_no cp hb) (fun Q' q1 q2 q3 q4 => cl_riderState hc q1 q2 q3 q4) rfl (fun j' e => jIE e) (by decide) (fun h' e => by cases e; exact ⟨fun _ _ _ => rfl, P, cp, rfl⟩) (fun n1 h1 x => cs_riderState_no x (by rw [g2]; exact hb)) rfl (fun P9 e => by cases e; exact hs _ hr)
set_option maxRecDepth 100000 in
set_option maxHeartbeats 4000000 in
theorem st_driverOf {K : KX} {c : Nat} {R : CS → MS → Prop} (hF : HasF R) : ∀ (n : Nat) (h : MH) (p1 : Int32), Jv R c n h → StepI K (c + 176) (c + 192) mL_driverOf [.ref c, .int p1, .ref (c + 192)] mX11_driverOf [.ref (c + 176), .int p1] (Jv R c) n h := by
  intro n h p1 j0
  obtain ⟨P, M, f, cp, mm, ho, hn, hr⟩ := j0
  obtain ⟨⟨f8, f20, g0, g1, g2, fd, fr⟩, ft⟩ := hF.1 P M hr
  have hs := hF.2 P M
  obtain ⟨fs, hc⟩ := cp.obj
  by_cases hb : b_in p1 0 (nI (bnr (pB P)) - 1) = true
  · obtain ⟨d, hd, rfl⟩ := (bin_ix (by omega)).mp hb
    refine gl_I (M' := sthr M 0) (QQ := fun P9 => P9 = P) mm ho hn (Nat.le_refl _) (by omega) (by omega) (cn_X10_driverOf cp rfl hd) (fun Q' q1 q2 q3 q4 => cl_driverOf hc q1 q2 q3 q4) (fun h' e => by cases e; exact ⟨fun _ _ _ => rfl, P, cp, rfl⟩) (fun h1 x => ?_) rfl (fun P9 e => by cases e; exact hs _ hr)
    have q := cs_driverOf (K := K) (n := n) x (show d < _ by omega) (by rw [g2]; exact hb)
    rw [(fr d hd).2.2.2.2.2.2.2.1] at q
    exact q
  · have hb := bin_ne hb
    exact gx_I (M' := sthr M 1) (j := 0) (QQ := fun P9 => P9 = P) mm ho hn (Nat.le_refl _) (by omega) (by omega) (cn_X10_driverOf_no cp hb) (fun Q' q1 q2 q3 q4 => cl_driverOf hc q1 q2 q3 q4) rfl (fun j' e => jIE e) (by decide) (fun h' e => by cases e; exact ⟨fun _ _ _ => rfl, P, cp, rfl⟩) (fun n1 h1 x => cs_driverOf_no x (by rw [g2]; exact hb)) rfl (fun P9 e => by cases e; exact hs _ hr)
set_option maxRecDepth 100000 in
set_option maxHeartbeats 4000000 in
theorem st_riderCredit {K : KX} {c : Nat} {R : CS → MS → Prop} (hF : HasF R) : ∀ (n : Nat) (h : MH) (p1 : Int32), Jv R c n h → StepJ K (c + 176) (c + 192) mL_riderCredit [.ref c, .int p1, .ref (c + 192)] mX11_riderCredit [.ref (c + 176), .int p1] (Jv R c) n h := by
  intro n h p1 j0
  obtain ⟨P, M, f, cp, mm, ho, hn, hr⟩ := j0
  obtain ⟨⟨f8, f20, g0, g1, g2, fd, fr⟩, ft⟩ := hF.1 P M hr
  have hs := hF.2 P M
  obtain ⟨fs, hc⟩ := cp.obj
  by_cases hb : b_in p1 0 (nI (bnr (pB P)) - 1) = true
  · obtain ⟨d, hd, rfl⟩ := (bin_ix (by omega)).mp hb
    refine gl_J (M' := sthr M 0) (QQ := fun P9 => P9 = P) mm ho hn (Nat.le_refl _) (by omega) (by omega) (cn_X10_riderCredit cp rfl hd) (fun Q' q1 q2 q3 q4 => cl_riderCredit hc q1 q2 q3 q4) (fun h' e => by cases e; exact ⟨fun _ _ _ => rfl, P, cp, rfl⟩) (fun h1 x => ?_) rfl (fun P9 e => by cases e; exact hs _ hr)
    have q := cs_riderCredit (K := K) (n := n) x (show d < _ by omega) (by rw [g2]; exact hb)
    rw [(fr d hd).2.2.2.2.2.2.2.2] at q
    exact q
  · have hb := bin_ne hb
    exact gx_J (M' := sthr M 1) (j := 0) (QQ := fun P9 => P9 = P) mm ho hn (Nat.le_refl _) (by omega) (by omega) (cn_X10_riderCredit_no cp hb) (fun Q' q1 q2 q3 q4 => cl_riderCredit hc q1 q2 q3 q4) rfl (fun j' e => jIE e) (by decide) (fun h' e => by cases e; exact ⟨fun _ _ _ => rfl, P, cp, rfl⟩) (fun n1 h1 x => cs_riderCredit_no x (by rw [g2]; exact hb)) rfl (fun P9 e => by cases e; exact hs _ hr)
set_option maxRecDepth 100000 in
set_option maxHeartbeats 4000000 in
theorem st_driverCount {K : KX} {c : Nat} {R : CS → MS → Prop} (hF : HasF R) : ∀ (n : Nat) (h : MH), Jv R c n h → StepD K c (c + 176) mX10_driverCount [.ref c] mX11_driverCount [.ref (c + 176)] (Jv R c) n h := by
  intro n h  j0
  obtain ⟨P, M, f, cp, mm, ho, hn, hr⟩ := j0
  obtain ⟨⟨f8, f20, g0, g1, g2, fd, fr⟩, ft⟩ := hF.1 P M hr
  have hs := hF.2 P M
  obtain ⟨fs, hc⟩ := cp.obj
  refine gl_D (M' := sthr M 0) (QQ := fun P9 => P9 = P) cp mm ho hn (Nat.le_refl _) (by omega) (by omega) (cn_X10_driverCount cp) (fun h' e => by cases e; exact ⟨fun _ _ _ => rfl, P, cp, rfl⟩) (fun h1 x => ?_) (fun P9 e => by cases e; exact hs _ hr)
  have q := cs_driverCount (K := K) (n := n) x
  rw [g1] at q
  exact q
set_option maxRecDepth 100000 in
set_option maxHeartbeats 4000000 in
theorem st_riderCount {K : KX} {c : Nat} {R : CS → MS → Prop} (hF : HasF R) : ∀ (n : Nat) (h : MH), Jv R c n h → StepD K c (c + 176) mX10_riderCount [.ref c] mX11_riderCount [.ref (c + 176)] (Jv R c) n h := by
  intro n h  j0
  obtain ⟨P, M, f, cp, mm, ho, hn, hr⟩ := j0
  obtain ⟨⟨f8, f20, g0, g1, g2, fd, fr⟩, ft⟩ := hF.1 P M hr
  have hs := hF.2 P M
  obtain ⟨fs, hc⟩ := cp.obj
  refine gl_D (M' := sthr M 0) (QQ := fun P9 => P9 = P) cp mm ho hn (Nat.le_refl _) (by omega) (by omega) (cn_X10_riderCount cp) (fun h' e => by cases e; exact ⟨fun _ _ _ => rfl, P, cp, rfl⟩) (fun h1 x => ?_) (fun P9 e => by cases e; exact hs _ hr)
  have q := cs_riderCount (K := K) (n := n) x
  rw [g2] at q
  exact q
set_option maxRecDepth 100000 in
set_option maxHeartbeats 4000000 in
theorem st_errorCode {K : KX} {c : Nat} {R : CS → MS → Prop} (hF : HasF R) : ∀ (n : Nat) (h : MH), Jv R c n h → StepD K c (c + 176) mX10_errorCode [.ref c] mX11_errorCode [.ref (c + 176)] (Jv R c) n h := by
  intro n h  j0
  obtain ⟨P, M, f, cp, mm, ho, hn, hr⟩ := j0
  obtain ⟨⟨f8, f20, g0, g1, g2, fd, fr⟩, ft⟩ := hF.1 P M hr
  have hs := hF.2 P M
  obtain ⟨fs, hc⟩ := cp.obj
  refine gl_D (M' := sthr M 0) (QQ := fun P9 => P9 = P) cp mm ho hn (Nat.le_refl _) (by omega) (by omega) (cn_X10_errorCode cp) (fun h' e => by cases e; exact ⟨fun _ _ _ => rfl, P, cp, rfl⟩) (fun h1 x => ?_) (fun P9 e => by cases e; exact hs _ hr)
  have q := cs_errorCode (K := K) (n := n) x
  rw [ft.2.2.2.1] at q
  exact q
set_option maxRecDepth 100000 in
set_option maxHeartbeats 4000000 in
theorem st_errorPosition {K : KX} {c : Nat} {R : CS → MS → Prop} (hF : HasF R) : ∀ (n : Nat) (h : MH), Jv R c n h → StepD K c (c + 176) mX10_errorPosition [.ref c] mX11_errorPosition [.ref (c + 176)] (Jv R c) n h := by
  intro n h  j0
  obtain ⟨P, M, f, cp, mm, ho, hn, hr⟩ := j0
  obtain ⟨⟨f8, f20, g0, g1, g2, fd, fr⟩, ft⟩ := hF.1 P M hr
  have hs := hF.2 P M
  obtain ⟨fs, hc⟩ := cp.obj
  refine gl_D (M' := sthr M 0) (QQ := fun P9 => P9 = P) cp mm ho hn (Nat.le_refl _) (by omega) (by omega) (cn_X10_errorPosition cp) (fun h' e => by cases e; exact ⟨fun _ _ _ => rfl, P, cp, rfl⟩) (fun h1 x => ?_) (fun P9 e => by cases e; exact hs _ hr)
  have q := cs_errorPosition (K := K) (n := n) x
  rw [ft.2.2.2.2] at q
  exact q
