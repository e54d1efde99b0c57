theorem mbest_open {B : BS} {S : Nat → Nat → Int32} {A : Nat → Int32} {r k b : Nat} (hk : k ≤ 8) (h : m_best B S A r k = some b) : b < k ∧ p_fit S b r = true ∧ bt (A r) b = false ∧ ∀ e, e < k → p_fit S e r = true → bt (A r) e = false → ¬ e = b → p_rpref B S r b e = true := by
  obtain ⟨b1, b2, b3⟩ := (mbest_v B S A r k).2 b h
  rw [open_bt (by omega), Bool.and_eq_true] at b2
  refine ⟨b1, b2.1, ?_, fun e he hf hb ne => b3 e he ?_ ne⟩
  · cases z : bt (A r) b
    · rfl
    · rw [z] at b2
      exact absurd b2.2 (by decide)
  · rw [open_bt (by omega), hf, hb]
    rfl
theorem mbest_none {B : BS} {S : Nat → Nat → Int32} {A : Nat → Int32} {r k : Nat} (hk : k ≤ 8) (h : m_best B S A r k = none) {e : Nat} (he : e < k) (hf : p_fit S e r = true) : bt (A r) e = true := by
  have := (mbest_v B S A r k).1 h e he
  rw [open_bt (by omega), hf, Bool.true_and] at this
  cases z : bt (A r) e
  · rw [z] at this
    exact absurd this (by decide)
  · rfl
theorem ask_bt {A : Nat → Int32} {r d : Nat} (hd : d < 8) (q e : Nat) (he : e < 8) : bt (upd A r (A r ||| ((1 : Int32) <<< (nI d &&& 31))) q) e = true ↔ bt (A q) e = true ∨ (q = r ∧ e = d) := by
  by_cases z : q = r
  · subst z
    rw [ux_s, b_or, Bool.or_eq_true, b_1sh d (by omega) e (by omega), decide_eq_true_iff]
    exact or_congr Iff.rfl ⟨fun y => ⟨rfl, y⟩, fun y => y.2⟩
  · rw [ux_n z]
    exact ⟨Or.inl, fun y => y.elim id fun w => absurd w.1 z⟩
/-- AN ASK keeps the invariant -/
theorem DA.ask {B : BS} {S : Nat → Nat → Int32} {H A : Nat → Int32} {r d : Nat} (x : DA B S H A) (h8 : bnd B ≤ 8) (h20 : bnr B ≤ 20) (hs : ∀ e, e < bnd B → 1 ≤ (dse (bD B e)).toInt ∧ (dse (bD B e)).toInt ≤ 4) (hr : r < bnr B) (hw : qst (bX B r) = 0) (h0 : H r = -1) (hb : m_best B S A r (bnd B) = some d) : DA B S (m_ask B S H A r d).1 (m_ask B S H A r d).2 := by
  obtain ⟨hd, hf, -, hbst⟩ := mbest_open h8 hb
  obtain ⟨m1, m2, m3⟩ := mhold_v B S (upd H r (nI d)) d r (bnr B)
  have eH : ∀ q, upd H r (nI d) q = if q = r then nI d else H q := fun _ => rfl
  have cnt : (m_hold B S (upd H r (nI d)) d r (bnr B)).1 = hcn B H d + 1 := by
    rw [m1]
    refine (ic_dropb (P := fun q => decide (H q = nI d)) (r := r) ?_ ?_ _ (fun q hq ne => ?_) hr).symm
    · show decide (H r = nI d) = false
      rw [h0]
      exact decide_eq_false fun z => nI_ne_m1 (a := d) (by omega) z.symm
    · show decide (upd H r (nI d) r = nI d) = true
      rw [ux_s]
      exact decide_eq_true rfl
    · show decide (H q = nI d) = decide (upd H r (nI d) q = nI d)
      rw [ux_n ne]
  have hc20 : hcn B H d ≤ 20 := Nat.le_trans (ic_le _ _) h20
  obtain ⟨s1, s2⟩ := hs d hd
  have lt : dse (bD B d) < nI (m_hold B S (upd H r (nI d)) d r (bnr B)).1 ↔ seat B d < hcn B H d + 1 := by
    rw [cnt, Int32.lt_iff_toInt_lt, ixn (by omega)]
    unfold seat
    omega
  refine x.go h8 hr hd hw h0 hf hbst (fun q e _ he => ask_bt (by omega) q e (by omega)) ?_
  rw [show (m_ask B S H A r d).1 = if dse (bD B d) < nI (m_hold B S (upd H r (nI d)) d r (bnr B)).1 then upd (upd H r (nI d)) (m_hold B S (upd H r (nI d)) d r (bnr B)).2 (-1) else upd H r (nI d) from rfl]
  by_cases z : seat B d < hcn B H d + 1
  · rw [if_pos (lt.mpr z)]
    refine Or.inr ⟨(m_hold B S (upd H r (nI d)) d r (bnr B)).2, ?_, ?_, fun q hq hz ne => m3 q hq ?_ ne, fun q hq => rfl, z⟩
    · rcases m2 with y | ⟨y, -⟩
      · rw [y]
        exact hr
      · exact y
    · rcases m2 with y | ⟨-, y⟩
      · exact Or.inl y
      · rw [eH] at y
        by_cases w : (m_hold B S (upd H r (nI d)) d r (bnr B)).2 = r
        · exact Or.inl w
        · rw [if_neg w] at y
          exact Or.inr y
    · rw [eH]
      by_cases w : q = r
      · rw [if_pos w]
      · rw [if_neg w]
        exact hz.resolve_left w
  · rw [if_neg (fun y => z (lt.mp y))]
    exact Or.inl ⟨fun q hq => rfl, by omega⟩
/-- how many asked whom -/
def NA (nr nd : Nat) (A : Nat → Int32) : Nat := i_pairs (fun r d => bt (A r) d) nd nr
theorem pairs_dropb {P Q : Nat → Nat → Bool} {r d nd : Nat} (hd : d < nd) (hp : P r d = false) (hq : Q r d = true) : ∀ k, (∀ q e, q < k → e < nd → ¬ (q = r ∧ e = d) → P q e = Q q e) → r < k → i_pairs P nd k + 1 = i_pairs Q nd k
  | 0, _, z => absurd z (by omega)
  | k + 1, h, z => by
    show i_pairs P nd k + i_count (P k) nd + 1 = i_pairs Q nd k + i_count (Q k) nd
    by_cases w : r = k
    · subst w
      have e1 := ic_dropb (P := P r) (Q := Q r) (r := d) hp hq nd (fun e he ne => h r e (by omega) he fun y => ne y.2) hd
      have e2 := pairs_c (P := P) (Q := Q) (nr := nd) r fun q e hq he => h q e (by omega) he fun y => by omega
      omega
    · have e1 := pairs_dropb hd hp hq k (fun q e hq he => h q e (by omega) he) (by omega)
      have e2 := ic_c (P := P k) (Q := Q k) nd fun e he => h k e (by omega) he fun y => w y.1.symm
      omega
theorem NA_ask {A : Nat → Int32} {r d nr nd : Nat} (h8 : nd ≤ 8) (hr : r < nr) (hd : d < nd) (hb : bt (A r) d = false) : NA nr nd (upd A r (A r ||| ((1 : Int32) <<< (nI d &&& 31)))) = NA nr nd A + 1 := by
  refine (pairs_dropb (P := fun q e => bt (A q) e) (Q := fun q e => bt (upd A r (A r ||| ((1 : Int32) <<< (nI d &&& 31))) q) e) (r := r) (d := d) hd hb ((ask_bt (by omega) r d (by omega)).mpr (Or.inr ⟨rfl, rfl⟩)) nr (fun q e hq he ne => ?_) hr).symm
  refine b_iff ?_
  rw [ask_bt (by omega) q e (by omega)]
  exact ⟨Or.inl, fun y => y.resolve_right ne⟩
theorem NA_lt {A : Nat → Int32} {r d nr nd : Nat} (h8 : nd ≤ 8) (hr : r < nr) (hd : d < nd) (hb : bt (A r) d = false) : NA nr nd A < nr * nd := by
  have e := NA_ask h8 hr hd hb
  have := i_pairs_le (fun q e => bt (upd A r (A r ||| ((1 : Int32) <<< (nI d &&& 31))) q) e) nd nr
  unfold NA at e ⊢
  omega
theorem mturn_s (B : BS) (S : Nat → Nat → Int32) (H A : Nat → Int32) (f k : Nat) : m_turn B S H A (f + 1) k = if qst (bX B k) = 0 ∧ H k = -1 then (match m_best B S A k (bnd B) with
      | none => m_turn B S H A f (k + 1)
      | some d => some (m_ask B S H A k d)) else m_turn B S H A f (k + 1) := rfl
theorem mturn_v (B : BS) (S : Nat → Nat → Int32) (H A : Nat → Int32) : ∀ f k, (m_turn B S H A f k = none ∧ ∀ r, k ≤ r → r < k + f → qst (bX B r) = 0 → H r = -1 → m_best B S A r (bnd B) = none) ∨ ∃ r d, k ≤ r ∧ r < k + f ∧ qst (bX B r) = 0 ∧ H r = -1 ∧ m_best B S A r (bnd B) = some d ∧ m_turn B S H A f k = some (m_ask B S H A r d)
  | 0, k => Or.inl ⟨rfl, fun r a b => absurd b (by omega)⟩
  | f + 1, k => by
    have ih := mturn_v B S H A f (k + 1)
    rw [mturn_s]
    have go : (qst (bX B k) = 0 → H k = -1 → m_best B S A k (bnd B) = none) → ((m_turn B S H A f (k + 1) = none ∧ ∀ r, k ≤ r → r < k + (f + 1) → qst (bX B r) = 0 → H r = -1 → m_best B S A r (bnd B) = none) ∨ ∃ r d, k ≤ r ∧ r < k + (f + 1) ∧ qst (bX B r) = 0 ∧ H r = -1 ∧ m_best B S A r (bnd B) = some d ∧ m_turn B S H A f (k + 1) = some (m_ask B S H A r d)) := fun hn => by
      rcases ih with ⟨a, b⟩ | ⟨r, d, a, b, c⟩
      · refine Or.inl ⟨a, fun r h1 h2 h3 h4 => ?_⟩
        by_cases z : r = k
        · subst z
          exact hn h3 h4
        · exact b r (by omega) (by omega) h3 h4
      · exact Or.inr ⟨r, d, by omega, by omega, c⟩
    by_cases z : qst (bX B k) = 0 ∧ H k = -1
    · rw [if_pos z]
      cases m : m_best B S A k (bnd B) with
      | none => exact go fun _ _ => m
      | some d => exact Or.inr ⟨k, d, Nat.le_refl _, by omega, z.1, z.2, m, rfl⟩
    · rw [if_neg z]
      exact go fun a b => absurd ⟨a, b⟩ z
/-- THE CLASS'S RUN ends with nobody left to ask -/
theorem mrun_v {B : BS} {S : Nat → Nat → Int32} (h8 : bnd B ≤ 8) (h20 : bnr B ≤ 20) (hs : ∀ e, e < bnd B → 1 ≤ (dse (bD B e)).toInt ∧ (dse (bD B e)).toInt ≤ 4) : ∀ f (s : (Nat → Int32) × (Nat → Int32)), DA B S s.1 s.2 → bnr B * bnd B ≤ NA (bnr B) (bnd B) s.2 + f → DA B S (m_run B S f s).1 (m_run B S f s).2 ∧ DT B S (m_run B S f s).1 (m_run B S f s).2
  | 0, s, x, hN => by
    refine ⟨x, fun r hr hq h0 => ?_⟩
    show m_best B S s.2 r (bnd B) = none
    cases m : m_best B S s.2 r (bnd B) with
    | none => rfl
    | some d =>
      obtain ⟨a, -, b, -⟩ := mbest_open h8 m
      have := NA_lt h8 hr a b
      omega
  | f + 1, s, x, hN => by
    rcases mturn_v B S s.1 s.2 (bnr B) 0 with ⟨a, b⟩ | ⟨r, d, -, b, c1, c2, c3, c4⟩
    · have e : m_run B S (f + 1) s = s := by
        show (match m_turn B S s.1 s.2 (bnr B) 0 with | none => s | some s' => m_run B S f s') = s
        rw [a]
      rw [e]
      exact ⟨x, fun r hr hq h0 => b r (Nat.zero_le _) (by omega) hq h0⟩
    · have e : m_run B S (f + 1) s = m_run B S f (m_ask B S s.1 s.2 r d) := by
        show (match m_turn B S s.1 s.2 (bnr B) 0 with | none => s | some s' => m_run B S f s') = _
        rw [c4]
      rw [e]
      obtain ⟨q1, -, q2, -⟩ := mbest_open h8 c3
      have hn : NA (bnr B) (bnd B) (m_ask B S s.1 s.2 r d).2 = NA (bnr B) (bnd B) s.2 + 1 := NA_ask h8 (by omega) q1 q2
      exact mrun_v h8 h20 hs f _ (x.ask h8 h20 hs (by omega) c1 c2 c3) (by omega)
/-- THE REFERENCE'S best is the class's -/
theorem ubest_e {B : BS} {g : Nat → Int32} {c : Nat → Int64} (h : RB B g c) {S8 : Nat → Nat → Int32} {S : Nat → Int32} (x : Sxs B S8 S) (A : Nat → Int32) {r : Nat} (hr : r < bnr B) : ∀ k, k ≤ bnd B → u_best g S A r k = m_best B S8 A r k
  | 0, _ => rfl
  | k + 1, hk => by
    have h8 := h.1.1
    have ih := ubest_e h x A hr k (by omega)
    have e : u_best g S A r (k + 1) = if ((A r >>> (nI k &&& 31)) &&& 1) = 0 ∧ u_fit S r k = true then (match u_best g S A r k with
      | none => some k
      | some b => if u_ld g S r k b then some k else some b) else u_best g S A r k := rfl
    have bit : ((A r >>> (nI k &&& 31)) &&& 1) = 0 ↔ bt (A r) k = false := by
      have b0 : bt ((A r >>> (nI k &&& 31)) &&& 1) 0 = bt (A r) k := by
        rw [b_and, b_sshr k (by omega) _ (by omega), b_1, decide_eq_true rfl, Bool.and_true, if_pos (by omega)]
        rfl
      constructor
      · intro z
        rw [z, b_0] at b0
        exact b0.symm
      · intro z
        refine b_ext fun i hi => ?_
        rw [b_0, b_and, b_1]
        by_cases y : i = 0
        · subst y
          rw [b_sshr k (by omega) _ (by omega), if_pos (by omega)]
          show (bt (A r) (k + 0) && _) = false
          rw [Nat.add_zero, z, Bool.false_and]
        · rw [decide_eq_false y, Bool.and_false]
    rw [e, mbest_s, ih, open_bt (by omega), x.fit (by omega) hr]
    by_cases z : bt (A r) k = false
    · by_cases f : u_fit S r k = true
      · rw [if_pos ⟨bit.mpr z, f⟩, z, f, if_pos (by decide)]
        cases m : m_best B S8 A r k with
        | none => rfl
        | some b =>
          obtain ⟨b1, b2, -⟩ := mbest_open (by omega) m
          show (if u_ld g S r k b then some k else some b) = if p_rpref B S8 r k b then some k else some b
          rw [h.ld x hr (by omega) (by omega) f (by rw [← x.fit (by omega) hr]; exact b2)]
      · rw [if_neg (fun y => f y.2), bf f, Bool.false_and, if_neg (by decide)]
    · rw [if_neg (fun y => z (bit.mp y.1)), if_neg]
      intro y
      rw [Bool.and_eq_true] at y
      cases w : bt (A r) k
      · exact z w
      · rw [w] at y
        exact absurd y.2 (by decide)
theorem uhold_e {B : BS} {g : Nat → Int32} {c : Nat → Int64} (h : RB B g c) {S8 : Nat → Nat → Int32} {S : Nat → Int32} (x : Sxs B S8 S) {H : Nat → Int32} {d r : Nat} (hd : d < bnd B) (hr : r < bnr B) (fr : u_fit S r d = true) (hf : ∀ q, q < bnr B → H q = nI d → u_fit S q d = true) : ∀ k, k ≤ bnr B → u_hold c S H d r k = m_hold B S8 H d r k
  | 0, _ => rfl
  | k + 1, hk => by
    have ih := uhold_e h x hd hr fr hf k (by omega)
    have e : u_hold c S H d r (k + 1) = if H k = nI d then ((u_hold c S H d r k).1 + 1, if u_lr c S d (u_hold c S H d r k).2 k then k else (u_hold c S H d r k).2) else u_hold c S H d r k := rfl
    rw [e, mhold_s, ih]
    by_cases z : H k = nI d
    · rw [if_pos z, if_pos z]
      have w : (m_hold B S8 H d r k).2 < bnr B ∧ u_fit S (m_hold B S8 H d r k).2 d = true := by
        rcases (mhold_v B S8 H d r k).2.1 with y | ⟨y, w⟩
        · rw [y]
          exact ⟨hr, fr⟩
        · exact ⟨by omega, hf _ (by omega) w⟩
      rw [h.lr x hd w.1 (by omega) w.2 (hf k (by omega) z)]
    · rw [if_neg z, if_neg z]
theorem uheld_e {B : BS} {g : Nat → Int32} {c : Nat → Int64} (h : RB B g c) {S8 : Nat → Nat → Int32} {S : Nat → Int32} (x : Sxs B S8 S) {H A : Nat → Int32} {d r : Nat} (hd : d < bnd B) (hr : r < bnr B) (fr : u_fit S r d = true) (da : DA B S8 H A) : u_held g c S H d r (bnr B) = (m_ask B S8 H A r d).1 := by
  have h8 := h.1.1
  have e := uhold_e h x (H := upd H r (nI d)) hd hr fr (fun q hq z => by
    by_cases y : q = r
    · rw [y]
      exact fr
    · rw [ux_n y] at z
      rcases da.1 q hq with a | ⟨e, a1, a2, a3⟩
      · rw [a] at z
        exact absurd z.symm (nI_ne_m1 (by omega))
      · have : e = d := (nI_inj (by omega) (by omega)).mp (a2.symm.trans z)
        subst this
        rw [← x.fit hd hq]
        exact (da.2.1 q e hq hd a3).2) (bnr B) (Nat.le_refl _)
  unfold u_held m_ask
  rw [e, (h.1.2.2.2.2.2.1 d hd).1]
/-- THE REFERENCE'S TURN -/
theorem aturn_v {B : BS} {g : Nat → Int32} {c : Nat → Int64} (h : RB B g c) (n1 : ∀ r, r < bnr B → ¬ gr g r 6 = 1) {S8 : Nat → Nat → Int32} {S : Nat → Int32} (x : Sxs B S8 S) (hs : ∀ e, e < bnd B → 1 ≤ (dse (bD B e)).toInt ∧ (dse (bD B e)).toInt ≤ 4) (s : HA) (da : DA B S8 s.1 s.2) : ∀ k, k ≤ bnr B →
    DA B S8 (a_turn g c S (bnr B) (bnd B) s k).1.1 (a_turn g c S (bnr B) (bnd B) s k).1.2 ∧ (((a_turn g c S (bnr B) (bnd B) s k).2 = true ∧ NA (bnr B) (bnd B) s.2 + 1 ≤ NA (bnr B) (bnd B) (a_turn g c S (bnr B) (bnd B) s k).1.2) ∨ (a_turn g c S (bnr B) (bnd B) s k = (s, false) ∧ ∀ r, r < k → qst (bX B r) = 0 → s.1 r = -1 → m_best B S8 s.2 r (bnd B) = none))
  | 0, _ => ⟨da, Or.inr ⟨rfl, fun r z => absurd z (by omega)⟩⟩
  | k + 1, hk => by
    have h8 := h.1.1
    have h20 := h.1.2.1
    have hkr : k < bnr B := by omega
    obtain ⟨i1, i2⟩ := aturn_v h n1 x hs s da k (by omega)
    have e : a_turn g c S (bnr B) (bnd B) s (k + 1) = a_st g c S (bnr B) (bnd B) (a_turn g c S (bnr B) (bnd B) s k) k := rfl
    rw [e]
    generalize a_turn g c S (bnr B) (bnd B) s k = p at i1 i2
    have tp0 : tp g k = decide (qst (bX B k) = 0) := by
      unfold tp
      rw [decide_eq_false (n1 k hkr), Bool.or_false, (h.st hkr).1]
    unfold a_st
    rw [tp0, ubest_e h x p.1.2 hkr _ (Nat.le_refl _)]
    by_cases z : qst (bX B k) = 0 ∧ p.1.1 k = -1
    · rw [if_pos (by rw [decide_eq_true z.1, decide_eq_true z.2]; rfl)]
      cases m : m_best B S8 p.1.2 k (bnd B) with
      | none =>
        refine ⟨i1, ?_⟩
        rcases i2 with i2 | ⟨j1, j2⟩
        · exact Or.inl i2
        · refine Or.inr ⟨j1, fun r hr q1 q2 => ?_⟩
          by_cases y : r = k
          · subst y
            rw [j1] at m
            exact m
          · exact j2 r (by omega) q1 q2
      | some d =>
        obtain ⟨q1, q2, q3, q4⟩ := mbest_open h8 m
        have fr : u_fit S k d = true := by
          rw [← x.fit q1 hkr]
          exact q2
        show DA B S8 (u_held g c S p.1.1 d k (bnr B)) (upd p.1.2 k (p.1.2 k ||| ((1 : Int32) <<< (nI d &&& 31)))) ∧ (((true = true) ∧ NA (bnr B) (bnd B) s.2 + 1 ≤ NA (bnr B) (bnd B) (upd p.1.2 k (p.1.2 k ||| ((1 : Int32) <<< (nI d &&& 31))))) ∨ _)
        rw [uheld_e h x q1 hkr fr i1, NA_ask h8 hkr q1 q3]
        refine ⟨i1.ask h8 h20 hs hkr z.1 z.2 m, Or.inl ⟨rfl, ?_⟩⟩
        rcases i2 with i2 | ⟨j1, -⟩
        · omega
        · rw [j1]
          exact Nat.le_refl _
    · rw [if_neg (fun y => z (by
        rw [Bool.and_eq_true, decide_eq_true_iff, decide_eq_true_iff] at y
        exact y))]
      refine ⟨i1, ?_⟩
      rcases i2 with i2 | ⟨j1, j2⟩
      · exact Or.inl i2
      · refine Or.inr ⟨j1, fun r hr q1 q2 => ?_⟩
        by_cases y : r = k
        · subst y
          rw [j1] at z
          exact absurd ⟨q1, q2⟩ z
        · exact j2 r (by omega) q1 q2
/-- THE REFERENCE'S RUN -/
theorem arun_v {B : BS} {g : Nat → Int32} {c : Nat → Int64} (h : RB B g c) (n1 : ∀ r, r < bnr B → ¬ gr g r 6 = 1) {S8 : Nat → Nat → Int32} {S : Nat → Int32} (x : Sxs B S8 S) (hs : ∀ e, e < bnd B → 1 ≤ (dse (bD B e)).toInt ∧ (dse (bD B e)).toInt ≤ 4) : ∀ f (s : HA), DA B S8 s.1 s.2 → bnr B * bnd B < NA (bnr B) (bnd B) s.2 + f → AskE g c S (bnr B) (bnd B) f s ∧ DA B S8 (a_run g c S (bnr B) (bnd B) f s).1 (a_run g c S (bnr B) (bnd B) f s).2 ∧ DT B S8 (a_run g c S (bnr B) (bnd B) f s).1 (a_run g c S (bnr B) (bnd B) f s).2
  | 0, s, da, hN => by
    have := i_pairs_le (fun r d => bt (s.2 r) d) (bnd B) (bnr B)
    unfold NA at hN
    omega
  | f + 1, s, da, hN => by
    obtain ⟨t1, t2⟩ := aturn_v h n1 x hs s da (bnr B) (Nat.le_refl _)
    have e : a_run g c S (bnr B) (bnd B) (f + 1) s = if (a_turn g c S (bnr B) (bnd B) s (bnr B)).2 then a_run g c S (bnr B) (bnd B) f (a_turn g c S (bnr B) (bnd B) s (bnr B)).1 else (a_turn g c S (bnr B) (bnd B) s (bnr B)).1 := rfl
    have eA : AskE g c S (bnr B) (bnd B) (f + 1) s = ((a_turn g c S (bnr B) (bnd B) s (bnr B)).2 = false ∨ AskE g c S (bnr B) (bnd B) f (a_turn g c S (bnr B) (bnd B) s (bnr B)).1) := rfl
    rw [e, eA]
    rcases t2 with ⟨a, b⟩ | ⟨a, b⟩
    · obtain ⟨j1, j2⟩ := arun_v h n1 x hs f _ t1 (by omega)
      rw [if_pos a]
      exact ⟨Or.inr j1, j2⟩
    · rw [a, if_neg (fun z => absurd (show false = true from z) (by decide))]
      exact ⟨Or.inl rfl, da, b⟩
theorem hbt_lt {B : BS} {S : Nat → Nat → Int32} {H1 H2 : Nat → Int32} {d r q : Nat} (hr : r < bnr B) (hz : H1 r = nI d) (hq : p_dpref B S d q r = true) : hbt B S H1 d q + 1 ≤ hcn B H1 d := by
  refine ic_sub1 (r := r) ?_ (decide_eq_true hz) _ hr fun p _ w => ?_
  · show (decide (H1 r = nI d) && p_dpref B S d r q) = false
    cases e : p_dpref B S d r q
    · rw [Bool.and_false]
    · have := dp_tr hq e
      rw [dpref_self] at this
      cases this
  · have w : (decide (H1 p = nI d) && p_dpref B S d p q) = true := w
    rw [Bool.and_eq_true] at w
    exact w.1
/-- the core: whoever is held at the end of one run and asked in the other is held there too -/
theorem DA.core {B : BS} {S : Nat → Nat → Int32} {H1 A1 H2 A2 : Nat → Int32} (x1 : DA B S H1 A1) (x2 : DA B S H2 A2) (h8 : bnd B ≤ 8) {r d : Nat} (hr : r < bnr B) (hd : d < bnd B) (hz : H2 r = nI d) (hb : bt (A1 r) d = true) (hsub : ∀ q, q < bnr B → bt (A1 q) d = true → bt (A2 q) d = true) : H1 r = nI d := by
  by_cases z : H1 r = nI d
  · exact z
  · exfalso
    have s1 := x1.2.2.2.1 r d hr hd hb z
    have hold : ∀ q, q < bnr B → (decide (H1 q = nI d) && p_dpref B S d q r) = true → H2 q = nI d := fun q hq w => by
      rw [Bool.and_eq_true, decide_eq_true_iff] at w
      by_cases y : H2 q = nI d
      · exact y
      · exfalso
        have b1 : bt (A1 q) d = true := by
          rcases x1.1 q hq with a | ⟨e, a1, a2, a3⟩
          · rw [a] at w
            exact absurd w.1.symm (nI_ne_m1 (by omega))
          · have : e = d := (nI_inj (by omega) (by omega)).mp (a2.symm.trans w.1)
            subst this
            exact a3
        have s2 := x2.2.2.2.1 q d hq hd (hsub q hq b1) y
        have l := hbt_lt (S := S) (H2 := H2) (q := q) hr hz w.2
        have := x2.2.2.2.2 d hd
        omega
    have l := ic_sub1 (A := fun q => decide (H1 q = nI d) && p_dpref B S d q r) (B := fun q => decide (H2 q = nI d)) (r := r) (by
      show (_ && p_dpref B S d r r) = false
      rw [dpref_self, Bool.and_false]) (decide_eq_true hz) (bnr B) hr fun q hq w => decide_eq_true (hold q hq w)
    have := x2.2.2.2.2 d hd
    unfold hbt at s1
    unfold hcn at this
    omega
/-- what is asked in a run is asked in every run that has ended -/
def Sub (B : BS) (A1 A2 : Nat → Int32) : Prop := ∀ r d, r < bnr B → d < bnd B → bt (A1 r) d = true → bt (A2 r) d = true
theorem Sub.ask {B : BS} {S : Nat → Nat → Int32} {H1 A1 H2 A2 : Nat → Int32} (x1 : DA B S H1 A1) (x2 : DA B S H2 A2) (t2 : DT B S H2 A2) (h8 : bnd B ≤ 8) (s : Sub B A1 A2) {r d : Nat} (hr : r < bnr B) (hw : qst (bX B r) = 0) (h0 : H1 r = -1) (hb : m_best B S A1 r (bnd B) = some d) : Sub B (m_ask B S H1 A1 r d).2 A2 := by
  obtain ⟨hd, hf, ho, hbst⟩ := mbest_open h8 hb
  have key : bt (A2 r) d = true := by
    cases z : bt (A2 r) d
    · exfalso
      rcases x2.1 r hr with a | ⟨e, a1, a2, a3⟩
      · have := mbest_none h8 (t2 r hr hw a) hd hf
        rw [z] at this
        cases this
      · have ne : ¬ e = d := fun y => by
          rw [y, z] at a3
          cases a3
        have fe := (x2.2.1 r e hr a1 a3).2
        have pe : p_rpref B S r e d = true := by
          cases y : p_rpref B S r e d
          · have := x2.2.2.1 r e d hr a1 hd a3 hf (rp_tri ne (by rw [y]; decide))
            rw [z] at this
            cases this
          · rfl
        have be : bt (A1 r) e = true := by
          cases y : bt (A1 r) e
          · exact absurd pe (rp_asym (hbst e a1 fe y ne))
          · rfl
        have := DA.core x1 x2 h8 hr a1 a2 be fun q hq w => s q e hq a1 w
        rw [h0] at this
        exact nI_ne_m1 (a := e) (by omega) this.symm
    · rfl
  intro q e hq he w
  rcases (ask_bt (A := A1) (r := r) (d := d) (by omega) q e (by omega)).mp w with y | ⟨y1, y2⟩
  · exact s q e hq he y
  · rw [y1, y2]
    exact key
theorem mrun_sub {B : BS} {S : Nat → Nat → Int32} {H2 A2 : Nat → Int32} (x2 : DA B S H2 A2) (t2 : DT B S H2 A2) (h8 : bnd B ≤ 8) (h20 : bnr B ≤ 20) (hs : ∀ e, e < bnd B → 1 ≤ (dse (bD B e)).toInt ∧ (dse (bD B e)).toInt ≤ 4) : ∀ f (s : (Nat → Int32) × (Nat → Int32)), DA B S s.1 s.2 → Sub B s.2 A2 → Sub B (m_run B S f s).2 A2
  | 0, s, _, y => y
  | f + 1, s, x, y => by
    rcases mturn_v B S s.1 s.2 (bnr B) 0 with ⟨a, b⟩ | ⟨r, d, -, b, c1, c2, c3, c4⟩
    · have e : m_run B S (f + 1) s = s := by
        show (match m_turn B S s.1 s.2 (bnr B) 0 with | none => s | some s' => m_run B S f s') = s
        rw [a]
      rw [e]
      exact y
    · have e : m_run B S (f + 1) s = m_run B S f (m_ask B S s.1 s.2 r d) := by
        show (match m_turn B S s.1 s.2 (bnr B) 0 with | none => s | some s' => m_run B S f s') = _
        rw [c4]
      rw [e]
      exact mrun_sub x2 t2 h8 h20 hs f _ (x.ask h8 h20 hs (by omega) c1 c2 c3) (Sub.ask x x2 t2 h8 y (by omega) c1 c2 c3)
theorem aturn_sub {B : BS} {g : Nat → Int32} {c : Nat → Int64} (h : RB B g c) (n1 : ∀ r, r < bnr B → ¬ gr g r 6 = 1) {S8 : Nat → Nat → Int32} {S : Nat → Int32} (x : Sxs B S8 S) (hs : ∀ e, e < bnd B → 1 ≤ (dse (bD B e)).toInt ∧ (dse (bD B e)).toInt ≤ 4) {H2 A2 : Nat → Int32} (x2 : DA B S8 H2 A2) (t2 : DT B S8 H2 A2) (s : HA) (da : DA B S8 s.1 s.2) (y : Sub B s.2 A2) : ∀ k, k ≤ bnr B → Sub B (a_turn g c S (bnr B) (bnd B) s k).1.2 A2
  | 0, _ => y
  | k + 1, hk => by
    have h8 := h.1.1
    have hkr : k < bnr B := by omega
    have ih := aturn_sub h n1 x hs x2 t2 s da y k (by omega)
    obtain ⟨i1, -⟩ := aturn_v h n1 x hs s da k (by omega)
    have e : a_turn g c S (bnr B) (bnd B) s (k + 1) = a_st g c S (bnr B) (bnd B) (a_turn g c S (bnr B) (bnd B) s k) k := rfl
    rw [e]
    generalize a_turn g c S (bnr B) (bnd B) s k = p at i1 ih
    have tp0 : tp g k = decide (qst (bX B k) = 0) := by
      unfold tp
      rw [decide_eq_false (n1 k hkr), Bool.or_false, (h.st hkr).1]
    unfold a_st
    rw [tp0, ubest_e h x p.1.2 hkr _ (Nat.le_refl _)]
    by_cases z : qst (bX B k) = 0 ∧ p.1.1 k = -1
    · rw [if_pos (by rw [decide_eq_true z.1, decide_eq_true z.2]; rfl)]
      cases m : m_best B S8 p.1.2 k (bnd B) with
      | none => exact ih
      | some d => exact Sub.ask i1 x2 t2 h8 ih hkr z.1 z.2 m
    · rw [if_neg (fun y => z (by
        rw [Bool.and_eq_true, decide_eq_true_iff, decide_eq_true_iff] at y
        exact y))]
      exact ih
theorem arun_sub {B : BS} {g : Nat → Int32} {c : Nat → Int64} (h : RB B g c) (n1 : ∀ r, r < bnr B → ¬ gr g r 6 = 1) {S8 : Nat → Nat → Int32} {S : Nat → Int32} (x : Sxs B S8 S) (hs : ∀ e, e < bnd B → 1 ≤ (dse (bD B e)).toInt ∧ (dse (bD B e)).toInt ≤ 4) {H2 A2 : Nat → Int32} (x2 : DA B S8 H2 A2) (t2 : DT B S8 H2 A2) : ∀ f (s : HA), DA B S8 s.1 s.2 → Sub B s.2 A2 → Sub B (a_run g c S (bnr B) (bnd B) f s).2 A2
  | 0, s, _, y => y
  | f + 1, s, da, y => by
    have t := aturn_sub h n1 x hs x2 t2 s da y (bnr B) (Nat.le_refl _)
    obtain ⟨t1, -⟩ := aturn_v h n1 x hs s da (bnr B) (Nat.le_refl _)
    have e : a_run g c S (bnr B) (bnd B) (f + 1) s = if (a_turn g c S (bnr B) (bnd B) s (bnr B)).2 then a_run g c S (bnr B) (bnd B) f (a_turn g c S (bnr B) (bnd B) s (bnr B)).1 else (a_turn g c S (bnr B) (bnd B) s (bnr B)).1 := rfl
    rw [e]
    cases (a_turn g c S (bnr B) (bnd B) s (bnr B)).2
    · rw [if_neg (by decide)]
      exact t
    · rw [if_pos rfl]
      exact arun_sub h n1 x hs x2 t2 f _ t1 t
/-- THE RESULT does not depend on the order -/
theorem DA.same {B : BS} {S : Nat → Nat → Int32} {H1 A1 H2 A2 : Nat → Int32} (x1 : DA B S H1 A1) (x2 : DA B S H2 A2) (h8 : bnd B ≤ 8) (s12 : Sub B A1 A2) (s21 : Sub B A2 A1) {r : Nat} (hr : r < bnr B) : H1 r = H2 r := by
  rcases x1.1 r hr with a | ⟨d, a1, a2, a3⟩
  · rcases x2.1 r hr with b | ⟨e, b1, b2, b3⟩
    · rw [a, b]
    · have := DA.core x1 x2 h8 hr b1 b2 (s21 r e hr b1 b3) fun q hq w => s12 q e hq b1 w
      rw [a] at this
      exact absurd this.symm (nI_ne_m1 (by omega))
  · have := DA.core x2 x1 h8 hr a1 a2 (s12 r d hr a1 a3) fun q hq w => s21 q d hq a1 w
    rw [a2, this]
theorem DA.start {B : BS} {S : Nat → Nat → Int32} {H A : Nat → Int32} (h8 : bnd B ≤ 8) (hH : ∀ r, r < bnr B → H r = -1) (hA : ∀ r, r < bnr B → A r = 0) : DA B S H A := by
  have nb : ∀ r d, r < bnr B → bt (A r) d = true → False := fun r d hr z => by
    rw [hA r hr, b_0] at z
    cases z
  refine ⟨fun r hr => Or.inl (hH r hr), fun r d hr _ z => (nb r d hr z).elim, fun r d e hr _ _ z => (nb r d hr z).elim, fun r d hr _ z => (nb r d hr z).elim, fun d hd => ?_⟩
  have : hcn B H d = 0 := ic_0 _ fun q hq => decide_eq_false fun z => by
    rw [hH q hq] at z
    exact nI_ne_m1 (a := d) (by omega) z.symm
  omega
