/-- both answer, the reference's end is one of many -/
theorem gl_I2 {K : KX} {c n n' : Nat} {h : MH} {R : CS → MS → Prop} {M : MS} {f : Nat → Int64} {A AL B : MI} {AA0 AA AB : List Value} {Es : List String} {v : Int32} {mc ms : Nat} {PP : MH → Prop} {QQ : CS → Prop} {TT : MS → Prop}
    (mm : Ms h (c + 176) M h) (ho : h (c + 192) = some (cJ 1 f)) (hn : c + 193 ≤ n) (hnn : n ≤ n') (hb1 : mc ≤ 100) (hb2 : ms ≤ 2000) (hcls : Con K A AA0 mc ms n h (RetP (some (.int v)) n' PP)) (hcl : ∀ Q', Con K A AA0 mc ms n h Q' → EOk Es Q' → VOi Q' → OOk (c + 192) Q' → Con K AL AA mc ms n h (LRi Es (c + 192) Q'))
    (hPP : ∀ h', PP h' → OffS c h h' ∧ ∃ P', Cp h' n' c P' ∧ QQ P') (href : ∀ h1, Ms h1 (c + 176) M h1 → Con K B AB 0 0 n' h1 (RetP (some (.int v)) n' (fun h2 => ∃ M', gthr M' = 0 ∧ TT M' ∧ Ms h1 (c + 176) M' h2))) (hR : ∀ P' M', QQ P' → TT M' → R P' M') : StepI K (c + 176) (c + 192) AL AA B AB (Jv R c) n h := by
  refine ⟨mc, ms, _, hb1, hb2, hcl _ hcls (fun E n9 h9 q => ?_) (fun w n9 h9 q => ?_) (fun r n9 h9 q => ?_), fun r n1 h1 q => ?_⟩
  · exact absurd q.1 (fun e => by cases e)
  · obtain ⟨e, -⟩ := q
    cases e
    exact ⟨v, rfl⟩
  · obtain ⟨o, -⟩ := hPP _ q.2.2
    exact ⟨f, (o _ (by omega) (by omega)).trans ho⟩
  · rcases q with ⟨i, h9, f9, q9, hof, rfl, rfl⟩ | ⟨E, j, q9, -⟩
    · obtain ⟨e1, rfl, hp⟩ := q9
      cases e1
      obtain ⟨o, P', cp', qq⟩ := hPP _ hp
      have mm1 : Ms (mup h9 (c + 192) (cJ 1 (vp_updL f9 0 v.toInt64))) (c + 176) M (mup h9 (c + 192) (cJ 1 (vp_updL f9 0 v.toInt64))) := mm.re fun q a b => (mup_n h9 _ (by omega)).trans (o q (by omega) (by omega))
      refine ⟨0, vp_updL f9 0 v.toInt64, v, _, rfl, mm1.obj, href _ mm1, fun h2 x2 => ?_⟩
      obtain ⟨M', ht, tt, x2⟩ := x2
      refine ⟨x2.obj, Ms (mup h9 (c + 192) (cJ 1 (vp_updL f9 0 v.toInt64))) (c + 176) M', (by rw [← ht]; exact cs_thrown x2), fun h3 x3 => ⟨?_, fun _ => vL0 _ _, P', M', vp_updL f9 0 v.toInt64, cp'.at ?_, x3.re (fun _ _ _ => rfl), ?_, by omega, hR P' M' qq tt⟩⟩
      · exact (x3.off _ (by omega)).trans (mup_s _ _ _)
      · intro q hq
        exact (x3.off q (by omega)).trans (mup_n h9 _ (by omega))
      · exact (x3.off _ (by omega)).trans (mup_s _ _ _)
    · exact absurd q9.1 (fun e => by cases e)
theorem gl_D2 {K : KX} {c n n' : Nat} {h : MH} {R : CS → MS → Prop} {P : CS} {M : MS} {f : Nat → Int64} {A B : MI} {AA AB : List Value} {v : Int32} {mc ms : Nat} {PP : MH → Prop} {QQ : CS → Prop} {TT : MS → Prop} (cp : Cp h n c P)
    (mm : Ms h (c + 176) M h) (ho : h (c + 192) = some (cJ 1 f)) (hn : c + 193 ≤ n) (hnn : n ≤ n') (hb1 : mc ≤ 100) (hb2 : ms ≤ 2000) (hcls : Con K A AA mc ms n h (RetP (some (.int v)) n' PP))
    (hPP : ∀ h', PP h' → OffS c h h' ∧ ∃ P', Cp h' n' c P' ∧ QQ P') (href : ∀ h1, Ms h1 (c + 176) M h1 → Con K B AB 0 0 n' h1 (RetP (some (.int v)) n' (fun h2 => ∃ M', TT M' ∧ Ms h1 (c + 176) M' h2))) (hR : ∀ P' M', QQ P' → TT M' → R P' M') : StepD K c (c + 176) A AA B AB (Jv R c) n h := by
  refine ⟨mc, ms, v, n', _, hb1, hb2, cp.obj, hcls, fun h1 q => ?_⟩
  obtain ⟨o, P', cp', qq⟩ := hPP _ q
  have mm1 : Ms h1 (c + 176) M h1 := mm.re fun q a b => o q (by omega) (by omega)
  have ho1 : h1 (c + 192) = some (cJ 1 f) := (o _ (by omega) (by omega)).trans ho
  refine ⟨mm1.obj, _, href _ mm1, fun h3 x3 => ?_⟩
  obtain ⟨M', tt, x3⟩ := x3
  exact ⟨P', M', f, cp'.at (fun q hq => x3.off q (by omega)), x3.re (fun _ _ _ => rfl), (x3.off _ (by omega)).trans ho1, by omega, hR P' M' qq tt⟩
theorem Rel.sol {P : CS} {M : MS} (h : Rel P M) (v : Int32) (S : Nat → Int32) : Rel P (ssol (sthr M v) S) := h
/-- both sides' solo extras -/
def Sxs (B : BS) (S8 : Nat → Nat → Int32) (S : Nat → Int32) : Prop := ∀ d r, d < bnd B → r < bnr B → Sx (S8 d r) (S (8 * r + d))
theorem RB.sxs {B : BS} {g : Nat → Int32} {c : Nat → Int64} (h : RB B g c) {S8 : Nat → Nat → Int32} {S : Nat → Int32} (e : SolE B S8) (w : SolW g (bnr B) (bnd B) S) : Sxs B S8 S := fun d r hd hr => by
  rw [e d r hd hr, w r d hr hd]
  exact h.sx hd hr
theorem Sx.fit {x y : Int32} (h : Sx x y) : decide (¬ x = -1) = decide (y < 1000000000) := by
  rcases h with ⟨a, b⟩ | ⟨a, b, e⟩
  · rw [a, b]
    decide
  · rw [decide_eq_true (m1_ne a), e, decide_eq_true (big_lt b)]
theorem Sx.val {x y : Int32} (h : Sx x y) (f : y < 1000000000) : x = y := by
  rcases h with ⟨a, b⟩ | ⟨a, b, e⟩
  · rw [b] at f
    exact absurd f big_irr
  · exact e.symm
theorem Sxs.fit {B : BS} {S8 : Nat → Nat → Int32} {S : Nat → Int32} (x : Sxs B S8 S) {d r : Nat} (hd : d < bnd B) (hr : r < bnr B) : p_fit S8 d r = u_fit S r d := (x d r hd hr).fit
theorem Sxs.val {B : BS} {S8 : Nat → Nat → Int32} {S : Nat → Int32} (x : Sxs B S8 S) {d r : Nat} (hd : d < bnd B) (hr : r < bnr B) (f : u_fit S r d = true) : S8 d r = S (8 * r + d) := (x d r hd hr).val (of_decide_eq_true f)
theorem RB.ld {B : BS} {g : Nat → Int32} {c : Nat → Int64} (h : RB B g c) {S8 : Nat → Nat → Int32} {S : Nat → Int32} (x : Sxs B S8 S) {r d e : Nat} (hr : r < bnr B) (hd : d < bnd B) (he : e < bnd B) (fd : u_fit S r d = true) (fe : u_fit S r e = true) : p_rpref B S8 r d e = u_ld g S r d e := by
  have e1 : p_price B S8 d r = u_pr g S r d := by
    unfold p_price u_pr
    rw [x.val hd hr fd, (h.1.2.2.2.2.2.1 d hd).2.2.2.1]
  have e2 : p_price B S8 e r = u_pr g S r e := by
    unfold p_price u_pr
    rw [x.val he hr fe, (h.1.2.2.2.2.2.1 e he).2.2.2.1]
  unfold p_rpref u_ld
  rw [e1, e2]
  by_cases z : u_pr g S r d = u_pr g S r e
  · rw [if_pos z, z, decide_eq_false (Int32.lt_irrefl), decide_eq_true (p := u_pr g S r e = u_pr g S r e) rfl, Bool.true_and, Bool.false_or]
  · rw [if_neg z, decide_eq_false z, Bool.false_and, Bool.or_false]
theorem RB.lr {B : BS} {g : Nat → Int32} {c : Nat → Int64} (h : RB B g c) {S8 : Nat → Nat → Int32} {S : Nat → Int32} (x : Sxs B S8 S) {d r q : Nat} (hd : d < bnd B) (hr : r < bnr B) (hq : q < bnr B) (fr : u_fit S r d = true) (fq : u_fit S q d = true) : p_dpref B S8 d r q = u_lr c S d r q := by
  unfold p_dpref u_lr c_more
  rw [x.val hd hr fr, x.val hd hq fq, (h.st hr).2.2, (h.st hq).2.2]
  by_cases z : S (8 * r + d) = S (8 * q + d)
  · rw [if_pos z, if_pos z]
    by_cases y : qcr (bX B r) = qcr (bX B q)
    · rw [if_pos y, y, decide_eq_false (Int64.lt_irrefl), decide_eq_true (p := qcr (bX B q) = qcr (bX B q)) rfl, Bool.true_and, Bool.false_or]
    · rw [if_neg y, decide_eq_false y, Bool.false_and, Bool.or_false]
  · rw [if_neg z, if_neg z]
theorem dpref_self (B : BS) (S : Nat → Nat → Int32) (d r : Nat) : p_dpref B S d r r = false := by
  unfold p_dpref
  rw [if_pos rfl, decide_eq_false (Int64.lt_irrefl), decide_eq_false (Nat.lt_irrefl r), Bool.and_false, Bool.or_false]
theorem rpref_self (B : BS) (S : Nat → Nat → Int32) (r d : Nat) : p_rpref B S r d d = false := by
  unfold p_rpref
  rw [decide_eq_false (Int32.lt_irrefl), decide_eq_false (Nat.lt_irrefl d), Bool.and_false, Bool.or_false]
/-- THE RIDER'S CHOICE -/
theorem RB.rch {B : BS} {g : Nat → Int32} {c : Nat → Int64} (h : RB B g c) {S8 : Nat → Nat → Int32} {S : Nat → Int32} (x : Sxs B S8 S) {r : Nat} (hr : r < bnr B) (pl : Int32) : p_dat B S8 r pl = w_rch g S r (bnd B) pl := by
  unfold p_dat w_rch
  refine if_c _ _ fun d _ hd => ?_
  have hd : d < bnd B := by omega
  unfold rc_Q
  rw [x.fit hd hr]
  cases f : u_fit S r d
  · rfl
  · have e : p_dbef B S8 r d = i_count (rc_P g S r d) (bnd B) := ic_c _ fun e he => by
      show (p_fit S8 e r && p_rpref B S8 r e d) = (!decide (e = d) && (u_fit S r d && (u_fit S r e && u_ld g S r e d)))
      rw [x.fit he hr, f, Bool.true_and]
      by_cases z : e = d
      · subst z
        rw [rpref_self, decide_eq_true (p := e = e) rfl, Bool.and_false]
        rfl
      · rw [decide_eq_false z]
        cases fe : u_fit S r e
        · rfl
        · rw [h.ld x hr he hd fe f]
          rfl
    rw [e]
theorem RB.cand {B : BS} {g : Nat → Int32} {c : Nat → Int64} (h : RB B g c) {S8 : Nat → Nat → Int32} {S : Nat → Int32} (x : Sxs B S8 S) {d r : Nat} (hd : d < bnd B) (hr : r < bnr B) : p_cand B S8 d r = u_ch g S d r := by
  unfold p_cand u_ch
  rw [x.fit hd hr, (h.st hr).1]
theorem ch_fit {g S : Nat → Int32} {d r : Nat} (h : u_ch g S d r = true) : u_fit S r d = true := by
  unfold u_ch at h
  rw [Bool.and_eq_true] at h
  exact h.2
/-- THE DRIVER'S CHOICE -/
theorem RB.dch {B : BS} {g : Nat → Int32} {c : Nat → Int64} (h : RB B g c) {S8 : Nat → Nat → Int32} {S : Nat → Int32} (x : Sxs B S8 S) {d : Nat} (hd : d < bnd B) (pl : Int32) : p_rat B S8 d pl = w_dch g c S d (bnr B) pl := by
  unfold p_rat w_dch
  refine if_c _ _ fun r _ hr => ?_
  have hr : r < bnr B := by omega
  unfold dc_Q
  rw [h.cand x hd hr]
  cases f : u_ch g S d r
  · rfl
  · have e : p_rbef B S8 d r = i_count (dc_P g c S d r) (bnr B) := ic_c _ fun q hq => by
      show (p_cand B S8 d q && p_dpref B S8 d q r) = (!decide (q = r) && (u_ch g S d r && (u_ch g S d q && u_lr c S d q r)))
      rw [h.cand x hd hq, f, Bool.true_and]
      by_cases z : q = r
      · subst z
        rw [dpref_self, decide_eq_true (p := q = q) rfl, Bool.and_false]
        rfl
      · rw [decide_eq_false z]
        cases fe : u_ch g S d q
        · rfl
        · rw [h.lr x hd hq hr (ch_fit fe) (ch_fit f)]
          rfl
    rw [e]
theorem any_e (P : Nat → Bool) : ∀ f k, i_any P f k = true ↔ ∃ q, k ≤ q ∧ q < k + f ∧ P q = true
  | 0, k => ⟨fun z => absurd (show false = true from z) (by decide), fun ⟨q, a, b, _⟩ => absurd b (by omega)⟩
  | f + 1, k => by
    have e : i_any P (f + 1) k = if P k then true else i_any P f (k + 1) := rfl
    rw [e]
    by_cases z : P k = true
    · rw [if_pos z]
      exact ⟨fun _ => ⟨k, Nat.le_refl _, by omega, z⟩, fun _ => rfl⟩
    · rw [if_neg z, any_e P f (k + 1)]
      constructor
      · rintro ⟨q, a, b, w⟩
        exact ⟨q, by omega, by omega, w⟩
      · rintro ⟨q, a, b, w⟩
        by_cases y : q = k
        · subst y
          exact absurd w z
        · exact ⟨q, by omega, by omega, w⟩
theorem tk_e (g : Nat → Int32) (c : Nat → Int64) (S : Nat → Int32) (d r nr : Nat) : ∀ k, u_tk g c S d r nr k = true ↔ nI (i_count (inP g d) nr) < gd g d 4 ∨ ∃ q, q < k ∧ (inP g d q && u_lr c S d r q) = true
  | 0 => by
    show decide (nI (i_count (inP g d) nr) < gd g d 4) = true ↔ _
    rw [decide_eq_true_iff]
    exact ⟨Or.inl, fun z => z.elim id fun ⟨q, a, _⟩ => absurd a (by omega)⟩
  | k + 1 => by
    show (u_tk g c S d r nr k || (inP g d k && u_lr c S d r k)) = true ↔ _
    rw [Bool.or_eq_true, tk_e g c S d r nr k]
    constructor
    · rintro ((a | ⟨q, a, w⟩) | w)
      · exact Or.inl a
      · exact Or.inr ⟨q, by omega, w⟩
      · exact Or.inr ⟨k, by omega, w⟩
    · rintro (a | ⟨q, a, w⟩)
      · exact Or.inl (Or.inl a)
      · by_cases y : q = k
        · subst y
          exact Or.inr w
        · exact Or.inl (Or.inr ⟨q, by omega, w⟩)
theorem b_iff {a b : Bool} (h : a = true ↔ b = true) : a = b := by
  cases a <;> cases b
  · rfl
  · exact absurd (h.mpr rfl) (by decide)
  · exact absurd (h.mp rfl) (by decide)
  · rfl
/-- a rider in an open driver's route fits it, also by the reference's solo extras -/
theorem RB.ufit {B : BS} {g : Nat → Int32} {c : Nat → Int64} (h : RB B g c) {S : Nat → Int32} (w : SolW g (bnr B) (bnd B) S) {d r : Nat} (hd : d < bnd B) (hr : r < bnr B) (h7 : gr g r 7 = nI d) (hop : gd g d 8 = 0) : u_fit S r d = true := by
  obtain ⟨a, b, e⟩ := h.fits hd hr h7 hop
  unfold u_fit
  rw [w r d hr hd, e]
  exact decide_eq_true (big_lt b)
theorem ufit_op {g S : Nat → Int32} {nr nd d r : Nat} (w : SolW g nr nd S) (hd : d < nd) (hr : r < nr) (f : u_fit S r d = true) : gd g d 8 = 0 := by
  by_cases z : gd g d 8 = 0
  · exact z
  · have e := of_decide_eq_true f
    rw [w r d hr hd] at e
    unfold w_sol at e
    rw [if_neg z] at e
    exact absurd e big_irr
/-- A BLOCKING PAIR -/
theorem RB.blk {B : BS} {g : Nat → Int32} {c : Nat → Int64} (h : RB B g c) {S8 : Nat → Nat → Int32} {S : Nat → Int32} (e : SolE B S8) (w : SolW g (bnr B) (bnd B) S) {d r : Nat} (hd : d < bnd B) (hr : r < bnr B) : p_block B S8 d r = u_blk g c S (bnr B) r d := by
  have x := h.sxs e w
  obtain ⟨s1, s2, s3⟩ := h.st hr
  have h8 := h.1.1
  unfold p_block u_blk
  rw [h.cand x hd hr, ← s1, ← s2]
  cases f : u_ch g S d r
  · rw [Bool.false_and, Bool.false_and, if_neg (by decide)]
  · by_cases z : gr g r 7 = nI d
    · rw [decide_eq_true z, if_neg (by decide), Bool.not_true, Bool.false_and, Bool.and_false]
    · rw [decide_eq_false z, if_pos (by decide), Bool.not_false, Bool.true_and, Bool.true_and]
      have fr := ch_fit f
      have hop := ufit_op w hd hr fr
      have go : (decide (gr g r 6 = 0) || p_rpref B S8 r d (i_nat (gr g r 7))) = u_go g S r d := by
        unfold u_go
        unfold u_ch at f
        rw [Bool.and_eq_true, Bool.or_eq_true, decide_eq_true_iff, decide_eq_true_iff] at f
        rcases (h.2.1.2 r hr).2 with ⟨a | a, b⟩ | ⟨p, hp, a, ⟨b, b2⟩ | ⟨b, b2⟩⟩
        · rw [decide_eq_true a, decide_eq_true b, Bool.true_or, Bool.true_or]
        · rw [a] at f
          exact absurd f.1 (by decide)
        · rw [a, i_nat_nI (by omega), b, decide_eq_false (nI_ne_m1 (a := p) (by omega)), h.ufit w hp hr a b2, h.ld x hr hd hp fr (h.ufit w hp hr a b2), show decide ((1 : Int32) = 0) = false by decide, Bool.false_or, Bool.false_or, Bool.not_true, Bool.false_or]
        · rw [b] at f
          exact absurd f.1 (by decide)
      have tk : (decide ((nI (rn (bT B d)) - 2) / 2 < dse (bD B d)) || p_some B S8 d r) = u_tk g c S d r (bnr B) (bnr B) := by
        refine b_iff ?_
        rw [tk_e, Bool.or_eq_true, decide_eq_true_iff, (h.half hd).1, (h.1.2.2.2.2.2.1 d hd).1]
        unfold p_some
        rw [any_e]
        refine or_congr Iff.rfl ?_
        have pt : ∀ q, q < bnr B → (decide (qdr (bX B q) = nI d) && p_dpref B S8 d r q) = (inP g d q && u_lr c S d r q) := fun q hq => by
          unfold inP
          rw [← (h.st hq).2.1]
          by_cases y : gr g q 7 = nI d
          · rw [h.lr x hd hr hq fr (h.ufit w hd hq y hop)]
          · rw [decide_eq_false y, Bool.false_and, Bool.false_and]
        constructor
        · rintro ⟨q, -, b, v⟩
          exact ⟨q, by omega, by rw [← pt q (by omega)]; exact v⟩
        · rintro ⟨q, b, v⟩
          exact ⟨q, Nat.zero_le _, by omega, by rw [pt q b]; exact v⟩
      rw [go, tk]
theorem pairs_0 (P : Nat → Nat → Bool) : ∀ d, i_pairs P 0 d = 0
  | 0 => rfl
  | d + 1 => by
    show i_pairs P 0 d + i_count (P d) 0 = 0
    rw [pairs_0 P d]
    rfl
theorem pairs_r (P : Nat → Nat → Bool) (m : Nat) : ∀ d, i_pairs P (m + 1) d = i_pairs P m d + i_count (fun e => P e m) d
  | 0 => rfl
  | d + 1 => by
    show i_pairs P (m + 1) d + (i_count (P d) m + if P d m then 1 else 0) = i_pairs P m d + i_count (P d) m + (i_count (fun e => P e m) d + if P d m then 1 else 0)
    rw [pairs_r P m d]
    omega
/-- pairs counted the other way -/
theorem pairs_sw (P : Nat → Nat → Bool) (nd : Nat) : ∀ nr, i_pairs P nr nd = i_pairs (fun r d => P d r) nd nr
  | 0 => pairs_0 P nd
  | m + 1 => by
    rw [pairs_r, pairs_sw P nd m]
    rfl
theorem pairs_c {P Q : Nat → Nat → Bool} {nr : Nat} : ∀ d, (∀ e r, e < d → r < nr → P e r = Q e r) → i_pairs P nr d = i_pairs Q nr d
  | 0, _ => rfl
  | d + 1, h => by
    show i_pairs P nr d + i_count (P d) nr = i_pairs Q nr d + i_count (Q d) nr
    rw [pairs_c d fun e r he hr => h e r (by omega) hr, ic_c nr fun r hr => h d r (by omega) hr]
theorem RB.pairs {B : BS} {g : Nat → Int32} {c : Nat → Int64} (h : RB B g c) {S8 : Nat → Nat → Int32} {S : Nat → Int32} (e : SolE B S8) (w : SolW g (bnr B) (bnd B) S) : i_pairs (p_block B S8) (bnr B) (bnd B) = w_blk g c S (bnr B) (bnd B) := by
  unfold w_blk
  rw [pairs_sw]
  exact pairs_c _ fun r d hr hd => h.blk e w hd hr
/-- one table of the reference's solo extras -/
def solC (g : Nat → Int32) (k : Nat) : Int32 := w_sol g (k / 8) (k % 8)
theorem solC_ok (g : Nat → Int32) (nr : Nat) {nd : Nat} (h8 : nd ≤ 8) : SolW g nr nd (solC g) := fun r d _ hd => by
  unfold solC
  rw [show (8 * r + d) / 8 = r by omega, show (8 * r + d) % 8 = d by omega]
theorem solB_ok (B : BS) : SolE B (b_solo B) := fun _ _ _ _ => rfl
theorem RB.dok {B : BS} {g : Nat → Int32} {c : Nat → Int64} (h : RB B g c) : DOk B := fun r hr h1 => by
  obtain ⟨d, hd, -, e⟩ := h.asg hr h1
  exact ⟨d, hd, e⟩
theorem Rel.save {P : CS} {M : MS} (h : Rel P M) {i : Nat} (hi : i < 2) {s : Nat} {D : BS} (e : Beq (pB P) D) : Rel (p_setV P i s D) (siss (scsv (ssav (sthr M 0) (cpk (gbrd M) (gsav M) 0 (568 * i) 568)) (cpkL (gcrd M) (gcsv M) 0 (28 * i) 28)) (upd (giss M) i 1)) := by
  refine ⟨h.1, h.2.1, h.2.2.1, fun j hj => ?_⟩
  by_cases z : j = i
  · subst z
    refine Or.inr ⟨?_, s, D, if_pos rfl, (h.1.beq e).c (fun k hk => ?_) (fun k hk => ?_)⟩
    · show ¬ upd (giss M) j 1 j = 0
      rw [ux_s]
      decide
    · show cpk (gbrd M) (gsav M) 0 (568 * j) 568 (568 * j + k) = gbrd M k
      rw [cpk_v, if_pos (by omega)]
      congr 1
      omega
    · show cpkL (gcrd M) (gcsv M) 0 (28 * j) 28 (28 * j + k) = gcrd M k
      rw [cpkL_v, if_pos (by omega)]
      congr 1
      omega
  · have ev : pV (p_setV P i s D) j = pV P j := if_neg z
    have eg : upd (giss M) i 1 j = giss M j := ux_n z
    rcases h.2.2.2 j hj with ⟨a, b⟩ | ⟨a, s', D', b, w⟩
    · exact Or.inl ⟨eg.trans a, ev.trans b⟩
    · refine Or.inr ⟨fun y => a (eg.symm.trans y), s', D', ev.trans b, w.c (fun k hk => ?_) (fun k hk => ?_)⟩
      · show cpk (gbrd M) (gsav M) 0 (568 * i) 568 (568 * j + k) = gsav M (568 * j + k)
        rw [cpk_v, if_neg (by omega)]
      · show cpkL (gcrd M) (gcsv M) 0 (28 * i) 28 (28 * j + k) = gcsv M (28 * j + k)
        rw [cpkL_v, if_neg (by omega)]
theorem Rel.rest {P : CS} {M : MS} (h : Rel P M) {i : Nat} (hi : i < 2) {s : Nat} {D B' : BS} (hs : pV P i = some (s, D)) (e : Beq D B') : Rel (p_setB P B') (scrd (sbrd (sthr M 0) (cpk (gsav M) (gbrd M) (568 * i) 0 568)) (cpkL (gcsv M) (gcrd M) (28 * i) 0 28)) := by
  refine ⟨?_, h.2⟩
  rcases h.2.2.2 i hi with ⟨a, b⟩ | ⟨a, s', D', b, w⟩
  · rw [hs] at b
    cases b
  · rw [hs] at b
    cases b
    refine (w.beq e).c (fun k hk => ?_) (fun k hk => ?_)
    · show cpk (gsav M) (gbrd M) (568 * i) 0 568 k = gsav M (568 * i + k)
      rw [cpk_v, if_pos (by omega)]
      congr 1
    · show cpkL (gcsv M) (gcrd M) (28 * i) 0 28 k = gcsv M (28 * i + k)
      rw [cpkL_v, if_pos (by omega)]
      congr 1
set_option maxRecDepth 100000 in
set_option maxHeartbeats 4000000 in
theorem sr_debtor {K : KX} {c : Nat} : ∀ (n : Nat) (h : MH) (p1 : Int32), Jv Rel c n h → StepD K c (c + 176) mX10_debtor [.ref c, .int p1] mX11_debtor [.ref (c + 176), .int p1] (Jv Rel c) n h := by
  intro n h p1 j0
  obtain ⟨P, M, f, cp, mm, ho, hn, hr⟩ := j0
  have hB := hr.1
  obtain ⟨⟨f8, f20, g0, g1, g2, fd, fr⟩, ft⟩ := Rel.hasF.1 P M hr
  obtain ⟨fs, hc⟩ := cp.obj
  refine gl_D (M' := sthr M 0) (QQ := fun P9 => P9 = P) cp mm ho hn (Nat.le_refl _) (by omega) (by omega) (cn_X10_debtor cp) (fun h' e => by cases e; exact ⟨fun _ _ _ => rfl, P, cp, rfl⟩) (fun h1 x => ?_) (fun P9 e => by cases e; exact Rel.hasF.2 _ _ _ hr)
  have q := cs_debtor (K := K) (n := n) x (pl := p1) g2 f20
  rw [← hB.dbt p1] at q
  exact q

set_option maxRecDepth 100000 in
set_option maxHeartbeats 4000000 in
theorem sr_meanDetourNumerator {K : KX} {c : Nat} : ∀ (n : Nat) (h : MH), Jv Rel c n h → StepD K c (c + 176) mX10_meanDetourNumerator [.ref c] mX11_meanDetourNumerator [.ref (c + 176)] (Jv Rel c) n h := by
  intro n h  j0
  obtain ⟨P, M, f, cp, mm, ho, hn, hr⟩ := j0
  have hB := hr.1
  obtain ⟨⟨f8, f20, g0, g1, g2, fd, fr⟩, ft⟩ := Rel.hasF.1 P M hr
  obtain ⟨fs, hc⟩ := cp.obj
  refine gl_D (M' := sthr M 0) (QQ := fun P9 => P9 = P) cp mm ho hn (Nat.le_refl _) (by omega) (by omega) (cn_X10_meanDetourNumerator cp hB.tok) (fun h' e => by cases e; exact ⟨fun _ _ _ => rfl, P, cp, rfl⟩) (fun h1 x => ?_) (fun P9 e => by cases e; exact Rel.hasF.2 _ _ _ hr)
  have q := cs_meanDetourNumerator (K := K) (n := n) x (L := rl (gbrd M)) (δ := δs (gbrd M)) g1 f8 (fun d hd => hB.rok hd) (fun d hd => ⟨(hB.δ hd).1, by have := (hB.δ hd).2; omega⟩)
  rw [← hB.mean.1] at q
  exact q

set_option maxRecDepth 100000 in
set_option maxHeartbeats 4000000 in
theorem sr_meanDetourDenominator {K : KX} {c : Nat} : ∀ (n : Nat) (h : MH), Jv Rel c n h → StepD K c (c + 176) mX10_meanDetourDenominator [.ref c] mX11_meanDetourDenominator [.ref (c + 176)] (Jv Rel c) n h := by
  intro n h  j0
  obtain ⟨P, M, f, cp, mm, ho, hn, hr⟩ := j0
  have hB := hr.1
  obtain ⟨⟨f8, f20, g0, g1, g2, fd, fr⟩, ft⟩ := Rel.hasF.1 P M hr
  obtain ⟨fs, hc⟩ := cp.obj
  refine gl_D (M' := sthr M 0) (QQ := fun P9 => P9 = P) cp mm ho hn (Nat.le_refl _) (by omega) (by omega) (cn_X10_meanDetourDenominator cp hB.tok) (fun h' e => by cases e; exact ⟨fun _ _ _ => rfl, P, cp, rfl⟩) (fun h1 x => ?_) (fun P9 e => by cases e; exact Rel.hasF.2 _ _ _ hr)
  have q := cs_meanDetourDenominator (K := K) (n := n) x (L := rl (gbrd M)) (δ := δs (gbrd M)) g1 f8 (fun d hd => hB.rok hd) (fun d hd => ⟨(hB.δ hd).1, by have := (hB.δ hd).2; omega⟩)
  rw [← hB.mean.2] at q
  exact q

set_option maxRecDepth 100000 in
set_option maxHeartbeats 4000000 in
theorem sr_riderChoice {K : KX} {c : Nat} : ∀ (n : Nat) (h : MH) (p1 p2 : Int32), Jv Rel c n h → StepI K (c + 176) (c + 192) mL_riderChoice [.ref c, .int p1, .int p2, .ref (c + 192)] mX11_riderChoice [.ref (c + 176), .int p1, .int p2] (Jv Rel c) n h := by
  intro n h p1 p2 j0
  obtain ⟨P, M, f, cp, mm, ho, hn, hr⟩ := j0
  have hB := hr.1
  obtain ⟨⟨f8, f20, g0, g1, g2, fd, fr⟩, ft⟩ := Rel.hasF.1 P M hr
  obtain ⟨fs, hc⟩ := cp.obj
  by_cases hp1 : b_in p1 0 (nI (bnr (pB P)) - 1) = true
  · obtain ⟨r, hr9, rfl⟩ := (bin_ix (by omega)).mp hp1
    have hrb : b_in (nI r) 0 (gbrd M 2 - 1) = true := by rw [g2]; exact hp1
    have hr2 : r < 20 := by omega
    refine gl_I2 (v := p_dat (pB P) (b_solo (pB P)) r p2) (QQ := fun P9 => P9 = P) (TT := fun M9 => ∃ S, M9 = ssol (sthr M 0) S) (PP := fun h' => CpE h h' n c P) mm ho hn (Nat.le_refl _) (by omega) (by omega) ((cn_X10_riderChoice cp rfl hr9 hB.tok).mono fun r9 n9 h9 q => ?_) (fun Q' q1 q2 q3 q4 => cl_riderChoice hc q1 q2 q3 q4) (fun h' e => ⟨e.2.s, _, e.1, rfl⟩) (fun h1 x => ?_) (fun P9 M9 e1 e2 => by obtain ⟨S, rfl⟩ := e2; cases e1; exact hr.sol 0 S)
    · obtain ⟨S8, s1, e1, e2, e3⟩ := q
      refine ⟨?_, e2, e3⟩
      rw [e1, hB.rch (hB.sxs s1 (solC_ok (gbrd M) (bnr (pB P)) f8)) hr9 p2, ← hB.rch (hB.sxs (solB_ok (pB P)) (solC_ok (gbrd M) (bnr (pB P)) f8)) hr9 p2]
    · refine (cs_riderChoice (K := K) (n := n) x hr2 hrb g2 f20 g1 f8).mono fun r9 n9 h9 q => ?_
      obtain ⟨S, s1, e1, e2, e3⟩ := q
      refine ⟨?_, e2, _, rfl, ⟨S, rfl⟩, e3⟩
      rw [e1, hB.rch (hB.sxs (solB_ok (pB P)) s1) hr9 p2]
  · have hp1 := bin_ne hp1
    exact gx_I (v := 0) (M' := sthr M 1) (j := 0) (QQ := fun P9 => P9 = P) mm ho hn (Nat.le_refl _) (by omega) (by omega) (cn_X10_riderChoice_no cp hp1) (fun Q' q1 q2 q3 q4 => cl_riderChoice hc q1 q2 q3 q4) rfl (fun j' e => jN (by decide) rfl e) (by decide) (fun h' e => by cases e; exact ⟨fun _ _ _ => rfl, P, cp, rfl⟩) (fun n1 h1 x => cs_riderChoice_no x (by rw [g2]; exact hp1)) rfl (fun P9 e => by cases e; exact Rel.hasF.2 _ _ _ hr)

set_option maxRecDepth 100000 in
set_option maxHeartbeats 4000000 in
theorem sr_driverChoice {K : KX} {c : Nat} : ∀ (n : Nat) (h : MH) (p1 p2 : Int32), Jv Rel c n h → StepI K (c + 176) (c + 192) mL_driverChoice [.ref c, .int p1, .int p2, .ref (c + 192)] mX11_driverChoice [.ref (c + 176), .int p1, .int p2] (Jv Rel c) n h := by
  intro n h p1 p2 j0
  obtain ⟨P, M, f, cp, mm, ho, hn, hr⟩ := j0
  have hB := hr.1
  obtain ⟨⟨f8, f20, g0, g1, g2, fd, fr⟩, ft⟩ := Rel.hasF.1 P M hr
  obtain ⟨fs, hc⟩ := cp.obj
  by_cases hp1 : b_in p1 0 (nI (bnd (pB P)) - 1) = true
  · obtain ⟨d, hd9, rfl⟩ := (bin_ix (by omega)).mp hp1
    have hdb : b_in (nI d) 0 (gbrd M 1 - 1) = true := by rw [g1]; exact hp1
    have hd2 : d < 8 := by omega
    have hdt : 2 ≤ rn (bT (pB P) d) := by rw [(hB.2.2 d hd9).1]; omega
    refine gl_I2 (v := p_rat (pB P) (b_solo (pB P)) d p2) (QQ := fun P9 => P9 = P) (TT := fun M9 => ∃ S, M9 = ssol (sthr M 0) S) (PP := fun h' => CpE h h' n c P) mm ho hn (Nat.le_refl _) (by omega) (by omega) ((cn_X10_driverChoice cp rfl hd9 hB.tok).mono fun r9 n9 h9 q => ?_) (fun Q' q1 q2 q3 q4 => cl_driverChoice hc q1 q2 q3 q4) (fun h' e => ⟨e.2.s, _, e.1, rfl⟩) (fun h1 x => ?_) (fun P9 M9 e1 e2 => by obtain ⟨S, rfl⟩ := e2; cases e1; exact hr.sol 0 S)
    · obtain ⟨S8, s1, e1, e2, e3⟩ := q
      refine ⟨?_, e2, e3⟩
      rw [e1, hB.dch (hB.sxs s1 (solC_ok (gbrd M) (bnr (pB P)) f8)) hd9 p2, ← hB.dch (hB.sxs (solB_ok (pB P)) (solC_ok (gbrd M) (bnr (pB P)) f8)) hd9 p2]
    · refine (cs_driverChoice (K := K) (n := n) x hd2 hdb g2 f20 g1 f8).mono fun r9 n9 h9 q => ?_
      obtain ⟨S, s1, e1, e2, e3⟩ := q
      refine ⟨?_, e2, _, rfl, ⟨S, rfl⟩, e3⟩
      rw [e1, hB.dch (hB.sxs (solB_ok (pB P)) s1) hd9 p2]
  · have hp1 := bin_ne hp1
    exact gx_I (v := 0) (M' := sthr M 1) (j := 0) (QQ := fun P9 => P9 = P) mm ho hn (Nat.le_refl _) (by omega) (by omega) (cn_X10_driverChoice_no cp hp1) (fun Q' q1 q2 q3 q4 => cl_driverChoice hc q1 q2 q3 q4) rfl (fun j' e => jN (by decide) rfl e) (by decide) (fun h' e => by cases e; exact ⟨fun _ _ _ => rfl, P, cp, rfl⟩) (fun n1 h1 x => cs_driverChoice_no x (by rw [g1]; exact hp1)) rfl (fun P9 e => by cases e; exact Rel.hasF.2 _ _ _ hr)

set_option maxRecDepth 100000 in
set_option maxHeartbeats 4000000 in
theorem sr_blockingPairs {K : KX} {c : Nat} : ∀ (n : Nat) (h : MH), Jv Rel c n h → StepD K c (c + 176) mX10_blockingPairs [.ref c] mX11_blockingPairs [.ref (c + 176)] (Jv Rel c) n h := by
  intro n h  j0
  obtain ⟨P, M, f, cp, mm, ho, hn, hr⟩ := j0
  have hB := hr.1
  obtain ⟨⟨f8, f20, g0, g1, g2, fd, fr⟩, ft⟩ := Rel.hasF.1 P M hr
  obtain ⟨fs, hc⟩ := cp.obj
  refine gl_D2 (v := nI (i_pairs (p_block (pB P) (b_solo (pB P))) (bnr (pB P)) (bnd (pB P)))) (QQ := fun P9 => P9 = P) (TT := fun M9 => ∃ S, M9 = ssol (sthr M 0) S) (PP := fun h' => CpE h h' n c P) cp mm ho hn (Nat.le_refl _) (by omega) (by omega) ((cn_X10_blockingPairs cp hB.tok hB.dok).mono fun r9 n9 h9 q => ?_) (fun h' e => ⟨e.2.s, _, e.1, rfl⟩) (fun h1 x => ?_) (fun P9 M9 e1 e2 => by obtain ⟨S, rfl⟩ := e2; cases e1; exact hr.sol 0 S)
  · obtain ⟨S8, s1, e1, e2, e3⟩ := q
    refine ⟨?_, e2, e3⟩
    rw [e1, hB.pairs s1 (solC_ok (gbrd M) (bnr (pB P)) f8), ← hB.pairs (solB_ok (pB P)) (solC_ok (gbrd M) (bnr (pB P)) f8)]
  · refine (cs_blockingPairs (K := K) (n := n) x g2 f20 g1 f8 (fun r hr9 => ?_)).mono fun r9 n9 h9 q => ?_
    · rcases hB.drv hr9 with ⟨a, -⟩ | ⟨d, hd, a, -⟩
      · exact Or.inl a
      · exact Or.inr ⟨d, by omega, a⟩
    · obtain ⟨S, s1, e1, e2, e3⟩ := q
      refine ⟨?_, e2, _, ⟨S, rfl⟩, e3⟩
      rw [e1, hB.pairs (solB_ok (pB P)) s1]

set_option maxRecDepth 100000 in
set_option maxHeartbeats 4000000 in
theorem sr_save {K : KX} {c : Nat} : ∀ (n : Nat) (h : MH) (p1 : Int32), Jv Rel c n h → StepV K (c + 176) mL_save [.ref c, .int p1] mX11_save [.ref (c + 176), .int p1] (Jv Rel c) n h := by
  intro n h p1 j0
  obtain ⟨P, M, f, cp, mm, ho, hn, hr⟩ := j0
  have hB := hr.1
  obtain ⟨⟨f8, f20, g0, g1, g2, fd, fr⟩, ft⟩ := Rel.hasF.1 P M hr
  obtain ⟨fs, hc⟩ := cp.obj
  by_cases hb : b_in p1 0 1 = true
  · skip
    obtain ⟨i, hi, rfl⟩ := bin_01.mp hb
    rcases hr.2.2.2 i hi with ⟨a, b⟩ | ⟨a, s, D, b, -⟩
    · skip
      refine gl_V (M' := siss (scsv (ssav (sthr M 0) (cpk (gbrd M) (gsav M) 0 (568 * i) 568)) (cpkL (gcrd M) (gcsv M) 0 (28 * i) 28)) (upd (giss M) i 1)) (QQ := fun P9 => ∃ D', Beq (pB P) D' ∧ P9 = p_setV P i n D') mm ho hn (Nat.le_add_right n 71) (by omega) (by omega) (cn_X10_save_new cp rfl hi hn b) (fun Q' q1 q2 q3 => cl_save hc q1 q2 q3) (fun h' e => by obtain ⟨D', e1, e2, e3⟩ := e; exact ⟨e3, _, e2, D', e1, rfl⟩) (fun h1 x => ?_) rfl (fun P9 e => by obtain ⟨D', e1, rfl⟩ := e; exact hr.save hi e1)
      exact cs_save (K := K) x hi hb
    · skip
      refine gl_V (M' := siss (scsv (ssav (sthr M 0) (cpk (gbrd M) (gsav M) 0 (568 * i) 568)) (cpkL (gcrd M) (gcsv M) 0 (28 * i) 28)) (upd (giss M) i 1)) (QQ := fun P9 => ∃ D', Beq (pB P) D' ∧ P9 = p_setV P i s D') mm ho hn (Nat.le_refl _) (by omega) (by omega) (cn_X10_save cp rfl hi b) (fun Q' q1 q2 q3 => cl_save hc q1 q2 q3) (fun h' e => by obtain ⟨D', e1, e2, e3⟩ := e; exact ⟨e3, _, e2, D', e1, rfl⟩) (fun h1 x => ?_) rfl (fun P9 e => by obtain ⟨D', e1, rfl⟩ := e; exact hr.save hi e1)
      exact cs_save (K := K) x hi hb
  · skip
    exact gx_V (M' := sthr M 1) (j := 0) (QQ := fun P9 => P9 = P) mm ho hn (Nat.le_refl _) (by omega) (by omega) (cn_X10_save_no cp (bf hb)) (fun Q' q1 q2 q3 => cl_save hc q1 q2 q3) rfl (fun j' e => jN (by decide) rfl e) (fun h' e => by cases e; exact ⟨fun _ _ _ => rfl, P, cp, rfl⟩) (fun n1 h1 x => cs_save_no x (bf hb)) rfl (fun P9 e => by cases e; exact Rel.hasF.2 _ _ _ hr)

set_option maxRecDepth 100000 in
set_option maxHeartbeats 4000000 in
theorem sr_restore {K : KX} {c : Nat} : ∀ (n : Nat) (h : MH) (p1 : Int32), Jv Rel c n h → StepV K (c + 176) mL_restore [.ref c, .int p1] mX11_restore [.ref (c + 176), .int p1] (Jv Rel c) n h := by
  intro n h p1 j0
  obtain ⟨P, M, f, cp, mm, ho, hn, hr⟩ := j0
  have hB := hr.1
  obtain ⟨⟨f8, f20, g0, g1, g2, fd, fr⟩, ft⟩ := Rel.hasF.1 P M hr
  obtain ⟨fs, hc⟩ := cp.obj
  by_cases hb : b_in p1 0 1 = true
  · skip
    obtain ⟨i, hi, rfl⟩ := bin_01.mp hb
    rcases hr.2.2.2 i hi with ⟨a, b⟩ | ⟨a, s, D, b, -⟩
    · skip
      exact gx_V (M' := sthr M 2) (j := 1) (QQ := fun P9 => P9 = P) mm ho hn (Nat.le_refl _) (by omega) (by omega) (cn_X10_restore_none cp rfl hi b) (fun Q' q1 q2 q3 => cl_restore hc q1 q2 q3) rfl (fun j' e => jN (by decide) rfl e) (fun h' e => by cases e; exact ⟨fun _ _ _ => rfl, P, cp, rfl⟩) (fun n1 h1 x => cs_restore_none x hi hb a) rfl (fun P9 e => by cases e; exact Rel.hasF.2 _ _ _ hr)
    · skip
      refine gl_V (M' := scrd (sbrd (sthr M 0) (cpk (gsav M) (gbrd M) (568 * i) 0 568)) (cpkL (gcsv M) (gcrd M) (28 * i) 0 28)) (QQ := fun P9 => ∃ B', Beq D B' ∧ P9 = p_setB P B') mm ho hn (Nat.le_refl _) (by omega) (by omega) (cn_X10_restore cp rfl hi b) (fun Q' q1 q2 q3 => cl_restore hc q1 q2 q3) (fun h' e => by obtain ⟨B', e1, e2⟩ := e; exact ⟨e2.2.s, _, e2.1, B', e1, rfl⟩) (fun h1 x => ?_) rfl (fun P9 e => by obtain ⟨B', e1, rfl⟩ := e; exact hr.rest hi b e1)
      exact cs_restore (K := K) x hi hb a
  · skip
    exact gx_V (M' := sthr M 1) (j := 0) (QQ := fun P9 => P9 = P) mm ho hn (Nat.le_refl _) (by omega) (by omega) (cn_X10_restore_no cp (bf hb)) (fun Q' q1 q2 q3 => cl_restore hc q1 q2 q3) rfl (fun j' e => jN (by decide) rfl e) (fun h' e => by cases e; exact ⟨fun _ _ _ => rfl, P, cp, rfl⟩) (fun n1 h1 x => cs_restore_no x (bf hb)) rfl (fun P9 e => by cases e; exact Rel.hasF.2 _ _ _ hr)

