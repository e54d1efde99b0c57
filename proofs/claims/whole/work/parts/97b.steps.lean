theorem jN {L : List String} (h : L.Nodup) {j j' : Nat} {E : String} (a : L[j]? = some E) (b : L[j']? = some E) : j' = j := (List.getElem?_inj (List.getElem?_eq_some_iff.mp b).1 h).mp (b.trans a.symm)
theorem bin_le {i : Int32} {m : Nat} (hm : m ≤ 1000) (h : b_in i 0 (nI m) = true) : ∃ t, t ≤ m ∧ i = nI t := by
  have q := b_in_i.mp h
  rw [ixn (by omega)] at q
  have e0 : (0 : Int32).toInt = 0 := rfl
  rw [e0] at q
  refine ⟨i.toInt.toNat, by omega, Int32.toInt_inj.mp ?_⟩
  rw [ixn (by omega)]
  omega
theorem bf {b : Bool} (h : ¬ b = true) : b = false := by
  cases b
  · rfl
  · exact absurd rfl h
theorem sh_255 (v : Int32) : ∀ f, f < 4 → i_ushr v (nI (8 * f)) &&& 255 = (v >>> (nI (8 * f) &&& 31)) &&& 255 := fun f hf => b_ext fun i hi => by
  have e : i_ushr v (nI (8 * f)) = (v.toUInt32 >>> ((nI (8 * f)).toUInt32 &&& Int32.toUInt32 31)).toInt32 := rfl
  rw [e, b_and, b_and, b_ushr _ (by omega), b_sshr _ (by omega) _ hi, b_255]
  by_cases z : i < 8
  · rw [if_pos (by omega)]
  · rw [decide_eq_false z, Bool.and_false, Bool.and_false]
theorem t_app_e (v : Int32) : ∀ (f : Nat) (T T' : Nat → Int32) (m : Nat), f ≤ 4 → (∀ k, k < m → T' k = T k) → ∀ k, k < m + f → t_app2 v f T' m k = t_app v f T m k
  | 0, _, _, _, _, h, k, hk => h k hk
  | f + 1, T, T', m, hf, h, k, hk => by
    refine t_app_e v f (upd T m (i_ushr v (nI (8 * f)) &&& 255)) (upd T' m ((v >>> (nI (8 * f) &&& 31)) &&& 255)) (m + 1) (by omega) (fun j hj => ?_) k (by omega)
    by_cases z : j = m
    · subst z
      rw [ux_s, ux_s, sh_255 v f (by omega)]
    · rw [ux_n z, ux_n z]
      exact h j (by omega)
theorem t_app_f (v : Int32) : ∀ (f : Nat), f ≤ 4 → ∀ (T : Nat → Int32) (m : Nat), t_app2 v f T m = t_app v f T m
  | 0, _, _, _ => rfl
  | f + 1, hf, T, m => by
    show t_app2 v f (upd T m ((v >>> (nI (8 * f) &&& 31)) &&& 255)) (m + 1) = t_app v f (upd T m (i_ushr v (nI (8 * f)) &&& 255)) (m + 1)
    rw [sh_255 v f (by omega), t_app_f v f (by omega)]
theorem a_zero_n {g : Nat → Int32} {d j : Nat} : ∀ k, (j < 8 + 10 * d ∨ 8 + 10 * d + k ≤ j) → a_zero g d k j = g j
  | 0, _ => rfl
  | k + 1, h => (ux_n (by omega)).trans (a_zero_n k (by omega))
theorem a_zero_g {g : Nat → Int32} {d i : Nat} : ∀ k, i < k → a_zero g d k (8 + 10 * d + i) = 0
  | 0, h => absurd h (by omega)
  | k + 1, h => by
    by_cases z : i = k
    · subst z
      exact ux_s
    · exact (ux_n (by omega)).trans (a_zero_g k (by omega))
theorem RB.addD {B : BS} {g : Nat → Int32} {c : Nat → Int64} (h : RB B g c) (h8 : bnd B < 8) {se de li ra : Int32} (hb : (b_in se 1 4 && b_in de 0 1439 && b_in li 0 400 && b_in ra 1 99) = true) : RB (b_addD B se de li ra) (upd (a_drvG g (bnd B) se de li ra) 1 (nI (bnd B + 1))) (vp_updL c (bnd B) 0) := by
  rw [Bool.and_eq_true, Bool.and_eq_true, Bool.and_eq_true] at hb
  obtain ⟨⟨⟨b1, b2⟩, b3⟩, b4⟩ := hb
  have rd : ∀ k, ¬ k = 1 → upd (a_drvG g (bnd B) se de li ra) 1 (nI (bnd B + 1)) k = a_drvG g (bnd B) se de li ra k := fun k n => ux_n n
  have z : ∀ f, f < 4 → gd (upd (a_drvG g (bnd B) se de li ra) 1 (nI (bnd B + 1))) (bnd B) f = 0 := fun f hf => by
    show upd (a_drvG g (bnd B) se de li ra) 1 (nI (bnd B + 1)) (8 + 10 * bnd B + f) = 0
    rw [rd _ (by omega)]
    unfold a_drvG
    rw [ux_n (by omega), ux_n (by omega), ux_n (by omega), ux_n (by omega)]
    exact a_zero_g 10 (by omega)
  have z2 : ∀ f, 8 ≤ f → f < 10 → gd (upd (a_drvG g (bnd B) se de li ra) 1 (nI (bnd B + 1))) (bnd B) f = 0 := fun f h8 hf => by
    show upd (a_drvG g (bnd B) se de li ra) 1 (nI (bnd B + 1)) (8 + 10 * bnd B + f) = 0
    rw [rd _ (by omega)]
    unfold a_drvG
    rw [ux_n (by omega), ux_n (by omega), ux_n (by omega), ux_n (by omega)]
    exact a_zero_g 10 (by omega)
  refine h.newD h8 (sx := 0) (sy := 0) (ex := 0) (ey := 0) b1 b2 b3 b4 (by decide) (by decide) (z 0 (by omega)) (z 1 (by omega)) (z 2 (by omega)) (z 3 (by omega)) ?_ ?_ ?_ ?_ (z2 8 (by omega) (by omega)) (z2 9 (by omega) (by omega)) ul_s ux_s (fun k hk n1 n2 => ?_) (fun k hk n => ul_n n) (Or.inr rfl) rfl
  · show upd (a_drvG g (bnd B) se de li ra) 1 (nI (bnd B + 1)) (8 + 10 * bnd B + 4) = se
    rw [rd _ (by omega)]
    unfold a_drvG
    rw [ux_n (by omega), ux_n (by omega), ux_n (by omega), ux_s]
  · show upd (a_drvG g (bnd B) se de li ra) 1 (nI (bnd B + 1)) (8 + 10 * bnd B + 5) = de
    rw [rd _ (by omega)]
    unfold a_drvG
    rw [ux_n (by omega), ux_n (by omega), ux_s]
  · show upd (a_drvG g (bnd B) se de li ra) 1 (nI (bnd B + 1)) (8 + 10 * bnd B + 6) = li
    rw [rd _ (by omega)]
    unfold a_drvG
    rw [ux_n (by omega), ux_s]
  · show upd (a_drvG g (bnd B) se de li ra) 1 (nI (bnd B + 1)) (8 + 10 * bnd B + 7) = ra
    rw [rd _ (by omega)]
    exact ux_s
  · rw [rd _ n1]
    unfold a_drvG
    rw [ux_n (by omega), ux_n (by omega), ux_n (by omega), ux_n (by omega)]
    exact a_zero_n 10 (by omega)
theorem RB.addR {B : BS} {g : Nat → Int32} {c : Nat → Int64} (h : RB B g c) (h20 : bnr B < 20) {fx fy tx ty rd dl : Int32} (hb : (b_pl fx fy && b_pl tx ty && b_in rd 0 1439 && b_in dl 0 9999) = true) : RB (b_addR B fx fy tx ty rd dl) (upd (a_rdrG g (bnr B) fx fy tx ty rd dl) 2 (nI (bnr B + 1))) (vp_updL c (8 + bnr B) 0) := by
  rw [Bool.and_eq_true, Bool.and_eq_true, Bool.and_eq_true] at hb
  obtain ⟨⟨⟨b1, b2⟩, b3⟩, b4⟩ := hb
  have rdd : ∀ k, ¬ k = 2 → upd (a_rdrG g (bnr B) fx fy tx ty rd dl) 2 (nI (bnr B + 1)) k = a_rdrG g (bnr B) fx fy tx ty rd dl k := fun k n => ux_n n
  refine h.newR h20 b1 b2 b3 b4 ?_ ?_ ?_ ?_ ?_ ?_ ?_ ?_ ul_s ux_s (fun k hk n1 n2 => ?_) (fun k hk n => ul_n n) rfl
  · show upd (a_rdrG g (bnr B) fx fy tx ty rd dl) 2 (nI (bnr B + 1)) (408 + 8 * bnr B + 0) = _
    rw [rdd _ (by omega)]
    unfold a_rdrG
    rw [ux_n (by omega), ux_n (by omega), ux_n (by omega), ux_n (by omega), ux_n (by omega), ux_n (by omega), ux_n (by omega), ux_s]
  · show upd (a_rdrG g (bnr B) fx fy tx ty rd dl) 2 (nI (bnr B + 1)) (408 + 8 * bnr B + 1) = _
    rw [rdd _ (by omega)]
    unfold a_rdrG
    rw [ux_n (by omega), ux_n (by omega), ux_n (by omega), ux_n (by omega), ux_n (by omega), ux_n (by omega), ux_s]
  · show upd (a_rdrG g (bnr B) fx fy tx ty rd dl) 2 (nI (bnr B + 1)) (408 + 8 * bnr B + 2) = _
    rw [rdd _ (by omega)]
    unfold a_rdrG
    rw [ux_n (by omega), ux_n (by omega), ux_n (by omega), ux_n (by omega), ux_n (by omega), ux_s]
  · show upd (a_rdrG g (bnr B) fx fy tx ty rd dl) 2 (nI (bnr B + 1)) (408 + 8 * bnr B + 3) = _
    rw [rdd _ (by omega)]
    unfold a_rdrG
    rw [ux_n (by omega), ux_n (by omega), ux_n (by omega), ux_n (by omega), ux_s]
  · show upd (a_rdrG g (bnr B) fx fy tx ty rd dl) 2 (nI (bnr B + 1)) (408 + 8 * bnr B + 4) = _
    rw [rdd _ (by omega)]
    unfold a_rdrG
    rw [ux_n (by omega), ux_n (by omega), ux_n (by omega), ux_s]
  · show upd (a_rdrG g (bnr B) fx fy tx ty rd dl) 2 (nI (bnr B + 1)) (408 + 8 * bnr B + 5) = _
    rw [rdd _ (by omega)]
    unfold a_rdrG
    rw [ux_n (by omega), ux_n (by omega), ux_s]
  · show upd (a_rdrG g (bnr B) fx fy tx ty rd dl) 2 (nI (bnr B + 1)) (408 + 8 * bnr B + 6) = _
    rw [rdd _ (by omega)]
    unfold a_rdrG
    rw [ux_n (by omega), ux_s]
  · show upd (a_rdrG g (bnr B) fx fy tx ty rd dl) 2 (nI (bnr B + 1)) (408 + 8 * bnr B + 7) = _
    rw [rdd _ (by omega)]
    unfold a_rdrG
    rw [ux_s]
  · rw [rdd _ n1]
    unfold a_rdrG
    rw [ux_n (by omega), ux_n (by omega), ux_n (by omega), ux_n (by omega), ux_n (by omega), ux_n (by omega), ux_n (by omega), ux_n (by omega)]
set_option maxRecDepth 100000 in
set_option maxHeartbeats 4000000 in
theorem sr_setPenalty {K : KX} {c : Nat} : ∀ (n : Nat) (h : MH) (p1 : Int32), Jv Rel c n h → StepI K (c + 176) (c + 192) mL_setPenalty [.ref c, .int p1, .ref (c + 192)] mX11_setPenalty [.ref (c + 176), .int p1] (Jv Rel c) n h := by
  intro n h p1 j0
  obtain ⟨P, M, f, cp, mm, ho, hn, hr⟩ := j0
  have hB := hr.1
  obtain ⟨⟨f8, f20, g0, g1, g2, fd, fr⟩, ft⟩ := Rel.hasF.1 P M hr
  obtain ⟨fs, hc⟩ := cp.obj
  by_cases hb : b_in p1 0 9999 = true
  · skip
    refine gl_I (M' := sbrd (sthr M 0) (upd (gbrd M) 0 p1)) (QQ := fun P9 => P9 = p_setB P (b_head (pB P) (bnd (pB P)) (bnr (pB P)) p1)) mm ho hn (Nat.le_refl _) (by omega) (by omega) (cn_X10_setPenalty cp hb) (fun Q' q1 q2 q3 q4 => cl_setPenalty hc q1 q2 q3 q4) (fun h' e => ⟨e.2.s, _, e.1, rfl⟩) (fun h1 x => ?_) rfl (fun P9 e => by cases e; exact ⟨hB.pen (g' := upd (gbrd M) 0 p1) ux_s (fun k h _ => ux_n (by omega)) (fun _ _ => rfl), hr.2⟩)
    have q := cs_setPenalty (K := K) (n := n) x hb
    rw [g0] at q
    exact q
  · skip
    exact gx_I (v := 0) (M' := sthr M 1) (j := 0) (QQ := fun P9 => P9 = P) mm ho hn (Nat.le_refl _) (by omega) (by omega) (cn_X10_setPenalty_arg cp (bf hb)) (fun Q' q1 q2 q3 q4 => cl_setPenalty hc q1 q2 q3 q4) rfl (fun j' e => jN (by decide) rfl e) (by decide) (fun h' e => by cases e; exact ⟨fun _ _ _ => rfl, P, cp, rfl⟩) (fun n1 h1 x => cs_setPenalty_arg x (bf hb)) rfl (fun P9 e => by cases e; exact Rel.hasF.2 _ _ _ hr)

set_option maxRecDepth 100000 in
set_option maxHeartbeats 4000000 in
theorem sr_pay {K : KX} {c : Nat} : ∀ (n : Nat) (h : MH) (p1 p2 : Int32), Jv Rel c n h → StepJ K (c + 176) (c + 192) mL_pay [.ref c, .int p1, .int p2, .ref (c + 192)] mX11_pay [.ref (c + 176), .int p1, .int p2] (Jv Rel c) n h := by
  intro n h p1 p2 j0
  obtain ⟨P, M, f, cp, mm, ho, hn, hr⟩ := j0
  have hB := hr.1
  obtain ⟨⟨f8, f20, g0, g1, g2, fd, fr⟩, ft⟩ := Rel.hasF.1 P M hr
  obtain ⟨fs, hc⟩ := cp.obj
  by_cases hp1 : b_in p1 0 (nI (bnr (pB P)) - 1) = true
  · obtain ⟨r, hr9, rfl⟩ := (bin_ix (by omega)).mp hp1
    have hrb : b_in (nI r) 0 (gbrd M 2 - 1) = true := by rw [g2]; exact hp1
    have hr2 : r < 20 := by omega
    by_cases hb : b_in p2 (-9999) 9999 = true
    · skip
      refine gl_J (M' := scrd (sthr M 0) (vp_updL (gcrd M) (8 + r) (gcrd M (8 + r) + p2.toInt64))) (QQ := fun P9 => P9 = p_setB P (b_setX (pB P) r (x_cr (bX (pB P) r) (qcr (bX (pB P) r) + p2.toInt64)))) mm ho hn (Nat.le_refl _) (by omega) (by omega) (cn_X10_pay cp rfl hr9 hb) (fun Q' q1 q2 q3 q4 => cl_pay hc q1 q2 q3 q4) (fun h' e => ⟨e.2.s, _, e.1, rfl⟩) (fun h1 x => ?_) rfl (fun P9 e => by cases e; exact ⟨by rw [← (hB.st hr9).2.2]; exact hB.crR hr9 rfl, hr.2⟩)
      have q := cs_pay (K := K) (n := n) x hr2 hrb hb
      rw [← (hB.st hr9).2.2]
      exact q
    · skip
      exact gx_J (v := (0 : Int32).toInt64) (M' := sthr M 2) (j := 1) (QQ := fun P9 => P9 = P) mm ho hn (Nat.le_refl _) (by omega) (by omega) (cn_X10_pay_arg cp rfl hr9 (bf hb)) (fun Q' q1 q2 q3 q4 => cl_pay hc q1 q2 q3 q4) rfl (fun j' e => jN (by decide) rfl e) (by decide) (fun h' e => by cases e; exact ⟨fun _ _ _ => rfl, P, cp, rfl⟩) (fun n1 h1 x => cs_pay_arg x hr2 hrb (bf hb)) rfl (fun P9 e => by cases e; exact Rel.hasF.2 _ _ _ hr)
  · have hp1 := bin_ne hp1
    exact gx_J (v := (0 : Int32).toInt64) (M' := sthr M 1) (j := 0) (QQ := fun P9 => P9 = P) mm ho hn (Nat.le_refl _) (by omega) (by omega) (cn_X10_pay_no cp hp1) (fun Q' q1 q2 q3 q4 => cl_pay hc q1 q2 q3 q4) rfl (fun j' e => jN (by decide) rfl e) (by decide) (fun h' e => by cases e; exact ⟨fun _ _ _ => rfl, P, cp, rfl⟩) (fun n1 h1 x => cs_pay_no x (by rw [g2]; exact hp1)) rfl (fun P9 e => by cases e; exact Rel.hasF.2 _ _ _ hr)

set_option maxRecDepth 100000 in
set_option maxHeartbeats 4000000 in
theorem sr_comeBack {K : KX} {c : Nat} : ∀ (n : Nat) (h : MH) (p1 : Int32), Jv Rel c n h → StepJ K (c + 176) (c + 192) mL_comeBack [.ref c, .int p1, .ref (c + 192)] mX11_comeBack [.ref (c + 176), .int p1] (Jv Rel c) n h := by
  intro n h p1 j0
  obtain ⟨P, M, f, cp, mm, ho, hn, hr⟩ := j0
  have hB := hr.1
  obtain ⟨⟨f8, f20, g0, g1, g2, fd, fr⟩, ft⟩ := Rel.hasF.1 P M hr
  obtain ⟨fs, hc⟩ := cp.obj
  by_cases hp1 : b_in p1 0 (nI (bnr (pB P)) - 1) = true
  · obtain ⟨r, hr9, rfl⟩ := (bin_ix (by omega)).mp hp1
    have hrb : b_in (nI r) 0 (gbrd M 2 - 1) = true := by rw [g2]; exact hp1
    have hr2 : r < 20 := by omega
    by_cases hb : qst (bX (pB P) r) = 2
    · skip
      refine gl_J (M' := wR (sthr M 0) r 6 0) (QQ := fun P9 => P9 = p_setB P (b_setX (pB P) r (x_st (bX (pB P) r) 0))) mm ho hn (Nat.le_refl _) (by omega) (by omega) (cn_X10_comeBack cp rfl hr9 hb) (fun Q' q1 q2 q3 q4 => cl_comeBack hc q1 q2 q3 q4) (fun h' e => ⟨e.2.s, _, e.1, rfl⟩) (fun h1 x => ?_) rfl (fun P9 e => by cases e; exact ⟨hB.cb hr9 ((hB.st hr9).1.trans hb), hr.2⟩)
      have q := cs_comeBack (K := K) (n := n) x hr2 hrb ((hB.st hr9).1.trans hb)
      rw [(hB.st hr9).2.2] at q
      exact q
    · skip
      exact gx_J (v := (0 : Int32).toInt64) (M' := sthr M 2) (j := 1) (QQ := fun P9 => P9 = P) mm ho hn (Nat.le_refl _) (by omega) (by omega) (cn_X10_comeBack_st cp rfl hr9 hb) (fun Q' q1 q2 q3 q4 => cl_comeBack hc q1 q2 q3 q4) rfl (fun j' e => jN (by decide) rfl e) (by decide) (fun h' e => by cases e; exact ⟨fun _ _ _ => rfl, P, cp, rfl⟩) (fun n1 h1 x => cs_comeBack_st x hr2 hrb (by rw [(hB.st hr9).1]; exact hb)) rfl (fun P9 e => by cases e; exact Rel.hasF.2 _ _ _ hr)
  · have hp1 := bin_ne hp1
    exact gx_J (v := (0 : Int32).toInt64) (M' := sthr M 1) (j := 0) (QQ := fun P9 => P9 = P) mm ho hn (Nat.le_refl _) (by omega) (by omega) (cn_X10_comeBack_no cp hp1) (fun Q' q1 q2 q3 q4 => cl_comeBack hc q1 q2 q3 q4) rfl (fun j' e => jN (by decide) rfl e) (by decide) (fun h' e => by cases e; exact ⟨fun _ _ _ => rfl, P, cp, rfl⟩) (fun n1 h1 x => cs_comeBack_no x (by rw [g2]; exact hp1)) rfl (fun P9 e => by cases e; exact Rel.hasF.2 _ _ _ hr)

set_option maxRecDepth 100000 in
set_option maxHeartbeats 4000000 in
theorem sr_truncateText {K : KX} {c : Nat} : ∀ (n : Nat) (h : MH) (p1 : Int32), Jv Rel c n h → StepI K (c + 176) (c + 192) mL_truncateText [.ref c, .int p1, .ref (c + 192)] mX11_truncateText [.ref (c + 176), .int p1] (Jv Rel c) n h := by
  intro n h p1 j0
  obtain ⟨P, M, f, cp, mm, ho, hn, hr⟩ := j0
  have hB := hr.1
  obtain ⟨⟨f8, f20, g0, g1, g2, fd, fr⟩, ft⟩ := Rel.hasF.1 P M hr
  obtain ⟨fs, hc⟩ := cp.obj
  by_cases hb : b_in p1 0 (nI (pL P)) = true
  · skip
    have h6 := ft.1
    obtain ⟨t, ht, rfl⟩ := bin_le (by omega) hb
    refine gl_I (M' := stl (sthr M 0) (nI t)) (QQ := fun P9 => P9 = p_setT P (pT P) t) mm ho hn (Nat.le_refl _) (by omega) (by omega) (cn_X10_truncateText cp rfl ht) (fun Q' q1 q2 q3 q4 => cl_truncateText hc q1 q2 q3 q4) (fun h' e => ⟨e.2.s, _, e.1, rfl⟩) (fun h1 x => ?_) rfl (fun P9 e => by cases e; exact ⟨hr.1, ⟨by show t ≤ 600; omega, rfl, fun k hk => ft.2.2.1 k (by have hk : k < t := hk; omega), ft.2.2.2.1, ft.2.2.2.2⟩, hr.2.2⟩)
    exact cs_truncateText (K := K) (n := n) x (by rw [ft.2.1]; exact hb)
  · skip
    exact gx_I (v := 0) (M' := sthr M 1) (j := 0) (QQ := fun P9 => P9 = P) mm ho hn (Nat.le_refl _) (by omega) (by omega) (cn_X10_truncateText_arg cp (bf hb)) (fun Q' q1 q2 q3 q4 => cl_truncateText hc q1 q2 q3 q4) rfl (fun j' e => jN (by decide) rfl e) (by decide) (fun h' e => by cases e; exact ⟨fun _ _ _ => rfl, P, cp, rfl⟩) (fun n1 h1 x => cs_truncateText_arg x (by rw [ft.2.1]; exact bf hb)) rfl (fun P9 e => by cases e; exact Rel.hasF.2 _ _ _ hr)

set_option maxRecDepth 100000 in
set_option maxHeartbeats 4000000 in
theorem sr_appendText {K : KX} {c : Nat} : ∀ (n : Nat) (h : MH) (p1 : Int32), Jv Rel c n h → StepI K (c + 176) (c + 192) mL_appendText [.ref c, .int p1, .ref (c + 192)] mX11_appendText [.ref (c + 176), .int p1] (Jv Rel c) n h := by
  intro n h p1 j0
  obtain ⟨P, M, f, cp, mm, ho, hn, hr⟩ := j0
  have hB := hr.1
  obtain ⟨⟨f8, f20, g0, g1, g2, fd, fr⟩, ft⟩ := Rel.hasF.1 P M hr
  obtain ⟨fs, hc⟩ := cp.obj
  by_cases hb : pL P + 4 ≤ 600
  · skip
    refine gl_I (M' := txS (sthr M 0) (t_app2 p1 4 (gtxt M) (pL P)) (pL P + 4)) (QQ := fun P9 => P9 = p_setT P (t_app p1 4 (pT P) (pL P)) (pL P + 4)) mm ho hn (Nat.le_refl _) (by omega) (by omega) (cn_X10_appendText cp hb) (fun Q' q1 q2 q3 q4 => cl_appendText hc q1 q2 q3 q4) (fun h' e => ⟨e.2.s, _, e.1, rfl⟩) (fun h1 x => ?_) rfl (fun P9 e => by cases e; exact ⟨hr.1, ⟨hb, rfl, t_app_e p1 4 (pT P) (gtxt M) (pL P) (by omega) ft.2.2.1, ft.2.2.2.1, ft.2.2.2.2⟩, ⟨(t_app_f p1 4 (by omega) (gtxt M) (pL P)).trans (congrArg (fun z => t_app p1 4 z (pL P)) hr.2.2.1.1), hr.2.2.1.2⟩, hr.2.2.2⟩)
    exact cs_appendText (K := K) (n := n) x ft.2.1 hb rfl
  · skip
    exact gx_I (v := 0) (M' := sthr M 1) (j := 0) (QQ := fun P9 => P9 = P) mm ho hn (Nat.le_refl _) (by omega) (by omega) (cn_X10_appendText_full cp (by omega)) (fun Q' q1 q2 q3 q4 => cl_appendText hc q1 q2 q3 q4) rfl (fun j' e => jN (by decide) rfl e) (by decide) (fun h' e => by cases e; exact ⟨fun _ _ _ => rfl, P, cp, rfl⟩) (fun n1 h1 x => cs_appendText_full x ft.2.1 ft.1 (by omega)) rfl (fun P9 e => by cases e; exact Rel.hasF.2 _ _ _ hr)

set_option maxRecDepth 100000 in
set_option maxHeartbeats 4000000 in
theorem sr_addDriver {K : KX} {c : Nat} : ∀ (n : Nat) (h : MH) (p1 p2 p3 p4 : Int32), Jv Rel c n h → StepI K (c + 176) (c + 192) mL_addDriver [.ref c, .int p1, .int p2, .int p3, .int p4, .ref (c + 192)] mX11_addDriver [.ref (c + 176), .int p1, .int p2, .int p3, .int p4] (Jv Rel c) n h := by
  intro n h p1 p2 p3 p4 j0
  obtain ⟨P, M, f, cp, mm, ho, hn, hr⟩ := j0
  have hB := hr.1
  obtain ⟨⟨f8, f20, g0, g1, g2, fd, fr⟩, ft⟩ := Rel.hasF.1 P M hr
  obtain ⟨fs, hc⟩ := cp.obj
  by_cases hb : (b_in p1 1 4 && b_in p2 0 1439 && b_in p3 0 400 && b_in p4 1 99) = true
  · skip
    by_cases h8 : bnd (pB P) < 8
    · skip
      refine gl_I (M' := a_drv (sthr M 0) (bnd (pB P)) p1 p2 p3 p4) (QQ := fun P9 => P9 = p_setB P (b_addD (pB P) p1 p2 p3 p4)) mm ho hn (Nat.le_refl _) (by omega) (by omega) (cn_X10_addDriver cp hb h8) (fun Q' q1 q2 q3 q4 => cl_addDriver hc q1 q2 q3 q4) (fun h' e => ⟨e.2.s, _, e.1, rfl⟩) (fun h1 x => ?_) rfl (fun P9 e => by cases e; exact ⟨hB.addD h8 hb, hr.2⟩)
      exact cs_addDriver (K := K) (n := n) x hb h8 g1
    · skip
      exact gx_I (v := 0) (M' := sthr M 2) (j := 1) (QQ := fun P9 => P9 = P) mm ho hn (Nat.le_refl _) (by omega) (by omega) (cn_X10_addDriver_full cp hb (by omega)) (fun Q' q1 q2 q3 q4 => cl_addDriver hc q1 q2 q3 q4) rfl (fun j' e => jN (by decide) rfl e) (by decide) (fun h' e => by cases e; exact ⟨fun _ _ _ => rfl, P, cp, rfl⟩) (fun n1 h1 x => cs_addDriver_full x hb (by rw [g1, show bnd (pB P) = 8 by omega]; rfl)) rfl (fun P9 e => by cases e; exact Rel.hasF.2 _ _ _ hr)
  · skip
    exact gx_I (v := 0) (M' := sthr M 1) (j := 0) (QQ := fun P9 => P9 = P) mm ho hn (Nat.le_refl _) (by omega) (by omega) (cn_X10_addDriver_arg cp (bf hb)) (fun Q' q1 q2 q3 q4 => cl_addDriver hc q1 q2 q3 q4) rfl (fun j' e => jN (by decide) rfl e) (by decide) (fun h' e => by cases e; exact ⟨fun _ _ _ => rfl, P, cp, rfl⟩) (fun n1 h1 x => cs_addDriver_arg x (bf hb)) rfl (fun P9 e => by cases e; exact Rel.hasF.2 _ _ _ hr)

set_option maxRecDepth 100000 in
set_option maxHeartbeats 4000000 in
theorem sr_addRider {K : KX} {c : Nat} : ∀ (n : Nat) (h : MH) (p1 p2 p3 p4 p5 p6 : Int32), Jv Rel c n h → StepI K (c + 176) (c + 192) mL_addRider [.ref c, .int p1, .int p2, .int p3, .int p4, .int p5, .int p6, .ref (c + 192)] mX11_addRider [.ref (c + 176), .int p1, .int p2, .int p3, .int p4, .int p5, .int p6] (Jv Rel c) n h := by
  intro n h p1 p2 p3 p4 p5 p6 j0
  obtain ⟨P, M, f, cp, mm, ho, hn, hr⟩ := j0
  have hB := hr.1
  obtain ⟨⟨f8, f20, g0, g1, g2, fd, fr⟩, ft⟩ := Rel.hasF.1 P M hr
  obtain ⟨fs, hc⟩ := cp.obj
  by_cases hb : (b_pl p1 p2 && b_pl p3 p4 && b_in p5 0 1439 && b_in p6 0 9999) = true
  · skip
    by_cases h8 : bnr (pB P) < 20
    · skip
      refine gl_I (M' := a_rdr (sthr M 0) (bnr (pB P)) p1 p2 p3 p4 p5 p6) (QQ := fun P9 => P9 = p_setB P (b_addR (pB P) p1 p2 p3 p4 p5 p6)) mm ho hn (Nat.le_refl _) (by omega) (by omega) (cn_X10_addRider cp hb h8) (fun Q' q1 q2 q3 q4 => cl_addRider hc q1 q2 q3 q4) (fun h' e => ⟨e.2.s, _, e.1, rfl⟩) (fun h1 x => ?_) rfl (fun P9 e => by cases e; exact ⟨hB.addR h8 hb, hr.2⟩)
      exact cs_addRider (K := K) (n := n) x hb h8 g2
    · skip
      exact gx_I (v := 0) (M' := sthr M 2) (j := 1) (QQ := fun P9 => P9 = P) mm ho hn (Nat.le_refl _) (by omega) (by omega) (cn_X10_addRider_full cp hb (by omega)) (fun Q' q1 q2 q3 q4 => cl_addRider hc q1 q2 q3 q4) rfl (fun j' e => jN (by decide) rfl e) (by decide) (fun h' e => by cases e; exact ⟨fun _ _ _ => rfl, P, cp, rfl⟩) (fun n1 h1 x => cs_addRider_full x hb (by rw [g2, show bnr (pB P) = 20 by omega]; rfl)) rfl (fun P9 e => by cases e; exact Rel.hasF.2 _ _ _ hr)
  · skip
    exact gx_I (v := 0) (M' := sthr M 1) (j := 0) (QQ := fun P9 => P9 = P) mm ho hn (Nat.le_refl _) (by omega) (by omega) (cn_X10_addRider_arg cp (bf hb)) (fun Q' q1 q2 q3 q4 => cl_addRider hc q1 q2 q3 q4) rfl (fun j' e => jN (by decide) rfl e) (by decide) (fun h' e => by cases e; exact ⟨fun _ _ _ => rfl, P, cp, rfl⟩) (fun n1 h1 x => cs_addRider_arg x (bf hb)) rfl (fun P9 e => by cases e; exact Rel.hasF.2 _ _ _ hr)

