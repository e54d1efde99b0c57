theorem w_marg_c {g g' : Nat → Int32} {d r : Nat} {l : List Int32} (hf : ∀ f, f < 7 → gd g' d f = gd g d f) (hl : ∀ c, c ∈ l → Cq g g' c) : w_marg g' r d l = w_marg g r d l := by
  unfold w_marg
  rw [w_len_c hf hl, w_len_c hf fun c m => hl c (wo_mem m)]
theorem fwl_c {g g' : Nat → Int32} {d : Nat} {l : List Int32} (h7 : ∀ q, gr g' q 7 = gr g q 7) (hm : ∀ r, w_marg g' r d l = w_marg g r d l) : ∀ k, fw_wl g' d l k = fw_wl g d l k ∧ fw_sum g' d l k = fw_sum g d l k
  | 0 => ⟨rfl, rfl⟩
  | k + 1 => by
    obtain ⟨a, b⟩ := fwl_c h7 hm k
    rw [fw_wl_s, fw_wl_s, fw_sum_s, fw_sum_s, a, b, h7, hm]
    exact ⟨rfl, rfl⟩
theorem fpl_c {g g' : Nat → Int32} {d q : Nat} (h7 : ∀ q, gr g' q 7 = gr g q 7) (hi : inP g' d = inP g d) : ∀ k, fw_pl g' d q k = fw_pl g d q k
  | 0 => rfl
  | k + 1 => by
    have e : ∀ g, fw_pl g d q (k + 1) = if gr g k 7 = nI d ∧ k = q then i_count (inP g d) k else fw_pl g d q k := fun _ => rfl
    rw [e, e, fpl_c h7 hi k, h7, hi]
theorem w_share_c {g g' : Nat → Int32} {d r nr : Nat} {l : List Int32} (hf : ∀ f, f < 8 → gd g' d f = gd g d f) (h7 : ∀ q, gr g' q 7 = gr g q 7) (hl : ∀ c, c ∈ l → Cq g g' c) : w_share g' r d l nr = w_share g r d l nr := by
  have hf7 : ∀ f, f < 7 → gd g' d f = gd g d f := fun f h => hf f (by omega)
  have hi : inP g' d = inP g d := funext fun q => by
    unfold inP
    rw [h7]
  have hm : ∀ r, w_marg g' r d l = w_marg g r d l := fun r => w_marg_c hf7 hl
  have hfin : fw_fin g' d l nr = fw_fin g d l nr := by
    unfold fw_fin
    rw [hi, (fwl_c h7 hm nr).1, (fwl_c h7 hm nr).2]
  have hb : w_bs g' d = w_bs g d := by
    unfold w_bs
    rw [w_dir_c hf7, hf 7 (by omega)]
  have hd : w_dc g' d l = w_dc g d l := by
    unfold w_dc
    rw [w_len_c hf7 hl, w_dir_c hf7, hf 7 (by omega)]
  unfold w_share w_base
  rw [hb, hd, hfin, hi, fpl_c h7 hi]
theorem RB.cpto {B : BS} {g : Nat → Int32} {c : Nat → Int64} (h : RB B g c) {d : Nat} (hd : d < bnd B) : ∀ k, k ≤ bnr B →
    (cp_to g c d (rl g d) (bnr B) k).1 = b_csum B d (b_shr B d) k ∧ (∀ j, (∀ q, q < k → gr g q 7 = nI d → ¬ j = 408 + 8 * q + 6) → (cp_to g c d (rl g d) (bnr B) k).2.1 j = g j) ∧ (∀ q, q < k → gr g q 7 = nI d → (cp_to g c d (rl g d) (bnr B) k).2.1 (408 + 8 * q + 6) = 3) ∧
    (∀ j, (∀ q, q < k → gr g q 7 = nI d → ¬ j = 8 + q) → (cp_to g c d (rl g d) (bnr B) k).2.2 j = c j) ∧ ∀ q, q < k → gr g q 7 = nI d → (cp_to g c d (rl g d) (bnr B) k).2.2 (8 + q) = c (8 + q) - (b_shr B d q).toInt64
  | 0, _ => ⟨rfl, fun _ _ => rfl, fun q z => absurd z (by omega), fun _ _ => rfl, fun q z => absurd z (by omega)⟩
  | k + 1, hk => by
    have h20 := h.1.2.1
    have h8 := h.1.1
    obtain ⟨a1, a2, a3, a4, a5⟩ := RB.cpto h hd k (by omega)
    obtain ⟨iD, iL⟩ := h.2.1.1 d hd
    have e : cp_to g c d (rl g d) (bnr B) (k + 1) = if gr (cp_to g c d (rl g d) (bnr B) k).2.1 k 7 = nI d then
      ((cp_to g c d (rl g d) (bnr B) k).1 + w_share (cp_to g c d (rl g d) (bnr B) k).2.1 k d (rl g d) (bnr B), upd (cp_to g c d (rl g d) (bnr B) k).2.1 (408 + 8 * k + 6) 3, vp_updL (cp_to g c d (rl g d) (bnr B) k).2.2 (8 + k) ((cp_to g c d (rl g d) (bnr B) k).2.2 (8 + k) - (w_share (cp_to g c d (rl g d) (bnr B) k).2.1 k d (rl g d) (bnr B)).toInt64)) else cp_to g c d (rl g d) (bnr B) k := rfl
    have ec : b_csum B d (b_shr B d) (k + 1) = if qdr (bX B k) = nI d then b_csum B d (b_shr B d) k + b_shr B d k else b_csum B d (b_shr B d) k := rfl
    have g7 : ∀ q, gr (cp_to g c d (rl g d) (bnr B) k).2.1 q 7 = gr g q 7 := fun q => a2 _ fun p _ _ => by omega
    have gf : ∀ f, f < 8 → gd (cp_to g c d (rl g d) (bnr B) k).2.1 d f = gd g d f := fun f hf => a2 _ fun p _ _ => by omega
    have gq : ∀ x, x ∈ rl g d → Cq g (cp_to g c d (rl g d) (bnr B) k).2.1 x := fun x m => Cq.of fun f hf => a2 _ fun p _ _ => by omega
    have sh : ∀ q, w_share (cp_to g c d (rl g d) (bnr B) k).2.1 q d (rl g d) (bnr B) = w_share g q d (rl g d) (bnr B) := fun q => w_share_c gf g7 gq
    rw [e, ec, g7, sh, ← (h.st (r := k) (by omega)).2.1]
    generalize cp_to g c d (rl g d) (bnr B) k = s at *
    by_cases z : gr g k 7 = nI d
    · rw [if_pos z, if_pos z, ← h.shr hd (by omega) z]
      refine ⟨?_, fun j hj => ?_, fun q hq hz => ?_, fun j hj => ?_, fun q hq hz => ?_⟩
      · show s.1 + b_shr B d k = _
        rw [a1]
      · exact (ux_n (hj k (by omega) z)).trans (a2 j fun q hq => hj q (by omega))
      · by_cases y : q = k
        · subst y
          exact ux_s
        · exact (ux_n (by omega)).trans (a3 q (by omega) hz)
      · exact (ul_n (hj k (by omega) z)).trans (a4 j fun q hq => hj q (by omega))
      · by_cases y : q = k
        · subst y
          refine ul_s.trans ?_
          rw [a4 (8 + q) fun p hp _ => by omega]
        · exact (ul_n (by omega)).trans (a5 q (by omega) hz)
    · rw [if_neg z, if_neg z]
      refine ⟨a1, fun j hj => a2 j fun q hq => hj q (by omega), fun q hq hz => ?_, fun j hj => a4 j fun q hq => hj q (by omega), fun q hq hz => ?_⟩
      · refine a3 q ?_ hz
        rcases Nat.lt_or_ge q k with y | y
        · exact y
        · exact absurd (show gr g k 7 = nI d by rw [← show q = k by omega]; exact hz) z
      · refine a5 q ?_ hz
        rcases Nat.lt_or_ge q k with y | y
        · exact y
        · exact absurd (show gr g k 7 = nI d by rw [← show q = k by omega]; exact hz) z
/-- A TRIP COMPLETED -/
theorem RB.comp {B : BS} {g : Nat → Int32} {c : Nat → Int64} (h : RB B g c) {d : Nat} (hd : d < bnd B) {s : Int32} {G : Nat → Int32} {C : Nat → Int64} (hs : cp_to g c d (rl g d) (bnr B) (bnr B) = (s, G, C)) : s = b_csum B d (b_shr B d) (bnr B) ∧ RB (b_comp B d) (upd G (8 + 10 * d + 8) 1) (vp_updL C d (C d + s.toInt64)) := by
  have h20 := h.1.2.1
  have h8 := h.1.1
  obtain ⟨a1, a2, a3, a4, a5⟩ := h.cpto hd (bnr B) (Nat.le_refl _)
  rw [hs] at a1 a2 a3 a4 a5
  have a1 : s = b_csum B d (b_shr B d) (bnr B) := a1
  have a2 : ∀ j, (∀ q, q < bnr B → gr g q 7 = nI d → ¬ j = 408 + 8 * q + 6) → G j = g j := a2
  have a3 : ∀ q, q < bnr B → gr g q 7 = nI d → G (408 + 8 * q + 6) = 3 := a3
  have a4 : ∀ j, (∀ q, q < bnr B → gr g q 7 = nI d → ¬ j = 8 + q) → C j = c j := a4
  have a5 : ∀ q, q < bnr B → gr g q 7 = nI d → C (8 + q) = c (8 + q) - (b_shr B d q).toInt64 := a5
  refine ⟨a1, ?_⟩
  obtain ⟨⟨f8, f20, g0, g1, g2, fd, fr⟩, ⟨i1, i2⟩, hx⟩ := h
  have lo : ∀ j, j < 408 → ¬ j = 8 + 10 * d + 8 → upd G (8 + 10 * d + 8) 1 j = g j := fun j hj n => (ux_n n).trans (a2 j fun q _ _ => by omega)
  have ed : ∀ e, e < bnd B → ∀ f, f < 10 → ¬ (e = d ∧ f = 8) → gd (upd G (8 + 10 * d + 8) 1) e f = gd g e f := fun e he f hf n => lo _ (by omega) (by omega)
  have er : ∀ r f, r < 20 → f < 8 → ¬ f = 6 → gr (upd G (8 + 10 * d + 8) 1) r f = gr g r f := fun r f hr hf n => (ux_n (by omega)).trans (a2 _ fun q _ _ => by omega)
  have e6 : ∀ r, r < bnr B → gr (upd G (8 + 10 * d + 8) 1) r 6 = if gr g r 7 = nI d then 3 else gr g r 6 := fun r hr => by
    show upd G (8 + 10 * d + 8) 1 (408 + 8 * r + 6) = _
    rw [ux_n (by omega)]
    by_cases z : gr g r 7 = nI d
    · rw [if_pos z]
      exact a3 r hr z
    · rw [if_neg z]
      refine a2 _ fun q hq hz y => ?_
      have : r = q := by omega
      subst this
      exact z hz
  have e8 : gd (upd G (8 + 10 * d + 8) 1) d 8 = 1 := ux_s
  have kp : ∀ e, e < bnd B → Keep g (upd G (8 + 10 * d + 8) 1) e (bnr B) (bnr B) := fun e he => ⟨fun f hf n => ed e he f hf (by omega), fun i hi => lo _ (by omega) (by omega), fun r hr _ f hf => er r f (by omega) (by omega) (by omega), fun r hr => by rw [er r 7 hr (by omega) (by omega)]⟩
  refine ⟨⟨f8, f20, (lo 0 (by omega) (by omega)).trans g0, (lo 1 (by omega) (by omega)).trans g1, (lo 2 (by omega) (by omega)).trans g2, fun e he => ?_, fun r hr => ?_⟩, ⟨fun e he => ?_, fun r hr => ?_⟩, fun e he => ?_⟩
  · have he : e < bnd B := he
    rw [ed e he 4 (by omega) (by omega), ed e he 5 (by omega) (by omega), ed e he 6 (by omega) (by omega), ed e he 7 (by omega) (by omega)]
    obtain ⟨x0, x1, x2, x3, x4, x5⟩ := fd e he
    by_cases z : e = d
    · subst z
      have eD : bD (b_comp B e) e = d_comp (bD B e) (b_csum B e (b_shr B e) (bnr B)) := vf_s _ _ _
      rw [eD, e8, ul_s, a4 e (fun q _ _ => by omega), x5, a1]
      exact ⟨x0, x1, x2, x3, rfl, rfl⟩
    · have eD : bD (b_comp B d) e = bD B e := vf_n _ _ z
      rw [eD, ed e he 8 (by omega) (by omega), ul_n z, a4 e (fun q _ _ => by omega)]
      exact ⟨x0, x1, x2, x3, x4, x5⟩
  · have hr : r < bnr B := hr
    obtain ⟨x0, x1, x2, x3, x4, x5, x6, x7, x8⟩ := fr r hr
    have eX : bX (b_comp B d) r = x_comp d (b_shr B d) r (bX B r) := if_pos hr
    rw [eX, er r 0 (by omega) (by omega) (by omega), er r 1 (by omega) (by omega) (by omega), er r 2 (by omega) (by omega) (by omega), er r 3 (by omega) (by omega) (by omega), er r 4 (by omega) (by omega) (by omega), er r 5 (by omega) (by omega) (by omega), er r 7 (by omega) (by omega) (by omega), e6 r hr, ul_n (show ¬ 8 + r = d by omega)]
    unfold x_comp
    rw [← x7]
    by_cases z : gr g r 7 = nI d
    · rw [if_pos z, if_pos z, a5 r hr z, x8]
      exact ⟨x0, x1, x2, x3, x4, x5, rfl, x7, rfl⟩
    · rw [if_neg z, if_neg z, a4 (8 + r) (fun q hq hz y => z (by rw [show r = q by omega]; exact hz))]
      exact ⟨x0, x1, x2, x3, x4, x5, x6, x7, x8⟩
  · have he : e < bnd B := he
    refine ⟨?_, ((kp e he).all (i1 e he).2 (hx e he)).1⟩
    by_cases z : e = d
    · subst z
      obtain ⟨y0, y1, y2, y3, y4, y5, y6⟩ := (i1 e he).1
      unfold IvD
      rw [ed e he 0 (by omega) (by omega), ed e he 1 (by omega) (by omega), ed e he 2 (by omega) (by omega), ed e he 3 (by omega) (by omega), ed e he 4 (by omega) (by omega), ed e he 5 (by omega) (by omega), ed e he 6 (by omega) (by omega), ed e he 7 (by omega) (by omega), e8]
      exact ⟨y0, y1, y2, y3, y4, y5, Or.inr rfl⟩
    · exact (i1 e he).1.c fun f hf => ed e he f (by omega) (by omega)
  · have hr : r < bnr B := hr
    refine ⟨(i2 r hr).1.c fun f hf => er r f (by omega) (by omega) (by omega), ?_⟩
    have q7 := er r 7 (by omega) (by omega) (by omega)
    have q6 := e6 r hr
    unfold IvS
    rw [q6, q7]
    by_cases z : gr g r 7 = nI d
    · rw [if_pos z]
      exact Or.inr ⟨d, hd, z, Or.inr ⟨rfl, e8⟩⟩
    · rw [if_neg z]
      rcases (i2 r hr).2 with ⟨a, b⟩ | ⟨e, he, a, b⟩
      · exact Or.inl ⟨a, b⟩
      · refine Or.inr ⟨e, he, a, ?_⟩
        rw [ed e he 8 (by omega) (fun y => z (by rw [← y.1]; exact a))]
        exact b
  · have he : e < bnd B := he
    exact ((kp e he).all (i1 e he).2 (hx e he)).2
set_option maxRecDepth 100000 in
set_option maxHeartbeats 4000000 in
theorem sr_share {K : KX} {c : Nat} : ∀ (n : Nat) (h : MH) (p1 : Int32), Jv Rel c n h → StepI K (c + 176) (c + 192) mL_share [.ref c, .int p1, .ref (c + 192)] mX11_share [.ref (c + 176), .int p1] (Jv Rel c) n h := by
  intro n h p1 j0
  obtain ⟨P, M, f, cp, mm, ho, hn, hr⟩ := j0
  have hB := hr.1
  obtain ⟨⟨f8, f20, g0, g1, g2, fd, fr⟩, ft⟩ := Rel.hasF.1 P M hr
  obtain ⟨fs, hc⟩ := cp.obj
  by_cases hp1 : b_in p1 0 (nI (bnr (pB P)) - 1) = true
  · obtain ⟨r, hr9, rfl⟩ := (bin_ix (by omega)).mp hp1
    have hrb : b_in (nI r) 0 (gbrd M 2 - 1) = true := by rw [g2]; exact hp1
    have hr2 : r < 20 := by omega
    rcases hB.drv hr9 with ⟨h7, hq⟩ | ⟨d, hd9, h7, hq⟩
    · skip
      refine gl_I (M' := sthr M 0) (QQ := fun P9 => P9 = P) mm ho hn (Nat.le_refl _) (by omega) (by omega) (cn_X10_share_none cp rfl hr9 hq) (fun Q' q1 q2 q3 q4 => cl_share hc q1 q2 q3 q4) (fun h' e => by cases e; exact ⟨fun _ _ _ => rfl, P, cp, rfl⟩) (fun h1 x => ?_) rfl (fun P9 e => by cases e; exact Rel.hasF.2 _ _ _ hr)
      exact cs_share_none (K := K) (n := n) x hr2 hrb h7
    · have hd2 : d < 8 := by omega
      refine gl_I (M' := sthr M 0) (QQ := fun P9 => P9 = P) mm ho hn (Nat.le_refl _) (by omega) (by omega) (cn_X10_share cp rfl hr9 hd9 hq (hB.tok d hd9)) (fun Q' q1 q2 q3 q4 => cl_share hc q1 q2 q3 q4) (fun h' e => ⟨e.2.s, _, e.1, rfl⟩) (fun h1 x => ?_) rfl (fun P9 e => by cases e; exact Rel.hasF.2 _ _ _ hr)
      have q := cs_share (K := K) (n := n) x hr2 hrb hd2 (hB.rok hd9) g2 f20 hr9 h7
      rw [← hB.shr hd9 hr9 h7] at q
      exact q
  · have hp1 := bin_ne hp1
    exact gx_I (v := 0) (M' := sthr M 1) (j := 0) (QQ := fun P9 => P9 = P) mm ho hn (Nat.le_refl _) (by omega) (by omega) (cn_X10_share_no cp hp1) (fun Q' q1 q2 q3 q4 => cl_share hc q1 q2 q3 q4) rfl (fun j' e => jN (by decide) rfl e) (by decide) (fun h' e => by cases e; exact ⟨fun _ _ _ => rfl, P, cp, rfl⟩) (fun n1 h1 x => cs_share_no x (by rw [g2]; exact hp1)) rfl (fun P9 e => by cases e; exact Rel.hasF.2 _ _ _ hr)

set_option maxRecDepth 100000 in
set_option maxHeartbeats 4000000 in
theorem sr_driverShare {K : KX} {c : Nat} : ∀ (n : Nat) (h : MH) (p1 : Int32), Jv Rel c n h → StepI K (c + 176) (c + 192) mL_driverShare [.ref c, .int p1, .ref (c + 192)] mX11_driverShare [.ref (c + 176), .int p1] (Jv Rel c) n h := by
  intro n h p1 j0
  obtain ⟨P, M, f, cp, mm, ho, hn, hr⟩ := j0
  have hB := hr.1
  obtain ⟨⟨f8, f20, g0, g1, g2, fd, fr⟩, ft⟩ := Rel.hasF.1 P M hr
  obtain ⟨fs, hc⟩ := cp.obj
  by_cases hp1 : b_in p1 0 (nI (bnd (pB P)) - 1) = true
  · obtain ⟨d, hd9, rfl⟩ := (bin_ix (by omega)).mp hp1
    have hdb : b_in (nI d) 0 (gbrd M 1 - 1) = true := by rw [g1]; exact hp1
    have hd2 : d < 8 := by omega
    have hdt : 2 ≤ rn (bT (pB P) d) := by rw [(hB.2.2 d hd9).1]; omega
    refine gl_I (M' := sthr M 0) (QQ := fun P9 => P9 = P) mm ho hn (Nat.le_refl _) (by omega) (by omega) (cn_X10_driverShare cp rfl hd9 hdt) (fun Q' q1 q2 q3 q4 => cl_driverShare hc q1 q2 q3 q4) (fun h' e => ⟨e.2.s, _, e.1, rfl⟩) (fun h1 x => ?_) rfl (fun P9 e => by cases e; exact Rel.hasF.2 _ _ _ hr)
    have q := cs_driverShare (K := K) (n := n) x hd2 hdb g2 f20
    rw [← hB.shd hd9] at q
    exact q
  · have hp1 := bin_ne hp1
    exact gx_I (v := 0) (M' := sthr M 1) (j := 0) (QQ := fun P9 => P9 = P) mm ho hn (Nat.le_refl _) (by omega) (by omega) (cn_X10_driverShare_no cp hp1) (fun Q' q1 q2 q3 q4 => cl_driverShare hc q1 q2 q3 q4) rfl (fun j' e => jN (by decide) rfl e) (by decide) (fun h' e => by cases e; exact ⟨fun _ _ _ => rfl, P, cp, rfl⟩) (fun n1 h1 x => cs_driverShare_no x (by rw [g1]; exact hp1)) rfl (fun P9 e => by cases e; exact Rel.hasF.2 _ _ _ hr)

theorem bt9 {b : Bool} (h : ¬ b = false) : b = true := by
  cases b
  · exact absurd rfl h
  · rfl
set_option maxRecDepth 100000 in
set_option maxHeartbeats 4000000 in
theorem sr_complete {K : KX} {c : Nat} : ∀ (n : Nat) (h : MH) (p1 : Int32), Jv Rel c n h → StepI K (c + 176) (c + 192) mL_complete [.ref c, .int p1, .ref (c + 192)] mX11_complete [.ref (c + 176), .int p1] (Jv Rel c) n h := by
  intro n h p1 j0
  obtain ⟨P, M, f, cp, mm, ho, hn, hr⟩ := j0
  have hB := hr.1
  obtain ⟨⟨f8, f20, g0, g1, g2, fd, fr⟩, ft⟩ := Rel.hasF.1 P M hr
  obtain ⟨fs, hc⟩ := cp.obj
  by_cases hp1 : b_in p1 0 (nI (bnd (pB P)) - 1) = true
  · obtain ⟨d, hd9, rfl⟩ := (bin_ix (by omega)).mp hp1
    have hdb : b_in (nI d) 0 (gbrd M 1 - 1) = true := by rw [g1]; exact hp1
    have hd2 : d < 8 := by omega
    have hdt : 2 ≤ rn (bT (pB P) d) := by rw [(hB.2.2 d hd9).1]; omega
    by_cases hs : ddo (bD (pB P) d) = false
    · skip
      obtain ⟨⟨s, G, C⟩, hcp⟩ : ∃ s, cp_to (gbrd M) (gcrd M) d (rl (gbrd M) d) (bnr (pB P)) (bnr (pB P)) = s := ⟨_, rfl⟩
      obtain ⟨z1, z2⟩ := hB.comp hd9 hcp
      refine gl_I (M' := nmS (sthr M 0) (upd G (8 + 10 * d + 8) 1) (vp_updL C d (C d + s.toInt64))) (QQ := fun P9 => P9 = p_setB P (b_comp (pB P) d)) mm ho hn (Nat.le_refl _) (by omega) (by omega) (cn_X10_complete cp rfl hd9 hdt hs) (fun Q' q1 q2 q3 q4 => cl_complete hc q1 q2 q3 q4) (fun h' e => ⟨e.2.s, _, e.1, rfl⟩) (fun h1 x => ?_) rfl (fun P9 e => by cases e; exact ⟨z2, hr.2⟩)
      have q := cs_complete (K := K) (n := n) x hd2 hdb g2 f20 (hB.rok hd9) (by rw [hB.op hd9, hs]; rfl)
      have em : cp_M (sthr M 0) d (rl (gbrd M) d) (bnr (pB P)) = nmS (sthr M 0) (upd G (8 + 10 * d + 8) 1) (vp_updL C d (C d + s.toInt64)) := by
        show nmS (sthr M 0) (upd (cp_to (gbrd M) (gcrd M) d (rl (gbrd M) d) (bnr (pB P)) (bnr (pB P))).2.1 (8 + 10 * d + 8) 1) (vp_updL (cp_to (gbrd M) (gcrd M) d (rl (gbrd M) d) (bnr (pB P)) (bnr (pB P))).2.2 d ((cp_to (gbrd M) (gcrd M) d (rl (gbrd M) d) (bnr (pB P)) (bnr (pB P))).2.2 d + (cp_to (gbrd M) (gcrd M) d (rl (gbrd M) d) (bnr (pB P)) (bnr (pB P))).1.toInt64)) = _
        rw [hcp]
      rw [em, hcp] at q
      rw [← z1]
      exact q
    · skip
      exact gx_I (v := 0) (M' := sthr M 2) (j := 1) (QQ := fun P9 => P9 = P) mm ho hn (Nat.le_refl _) (by omega) (by omega) (cn_X10_complete_done cp rfl hd9 (bt9 hs)) (fun Q' q1 q2 q3 q4 => cl_complete hc q1 q2 q3 q4) rfl (fun j' e => jN (by decide) rfl e) (by decide) (fun h' e => by cases e; exact ⟨fun _ _ _ => rfl, P, cp, rfl⟩) (fun n1 h1 x => cs_complete_done x hd2 hdb (by rw [hB.op hd9, bt9 hs]; decide)) rfl (fun P9 e => by cases e; exact Rel.hasF.2 _ _ _ hr)
  · have hp1 := bin_ne hp1
    exact gx_I (v := 0) (M' := sthr M 1) (j := 0) (QQ := fun P9 => P9 = P) mm ho hn (Nat.le_refl _) (by omega) (by omega) (cn_X10_complete_no cp hp1) (fun Q' q1 q2 q3 q4 => cl_complete hc q1 q2 q3 q4) rfl (fun j' e => jN (by decide) rfl e) (by decide) (fun h' e => by cases e; exact ⟨fun _ _ _ => rfl, P, cp, rfl⟩) (fun n1 h1 x => cs_complete_no x (by rw [g1]; exact hp1)) rfl (fun P9 e => by cases e; exact Rel.hasF.2 _ _ _ hr)

