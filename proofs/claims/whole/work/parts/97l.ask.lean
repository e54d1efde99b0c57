theorem dpref_iff (B : BS) (S : Nat → Nat → Int32) (d r q : Nat) : p_dpref B S d r q = true ↔ (S d r).toInt < (S d q).toInt ∨ ((S d r).toInt = (S d q).toInt ∧ ((qcr (bX B q)).toInt < (qcr (bX B r)).toInt ∨ ((qcr (bX B r)).toInt = (qcr (bX B q)).toInt ∧ r < q))) := by
  unfold p_dpref
  by_cases z : S d r = S d q
  · rw [if_pos z, Bool.or_eq_true, Bool.and_eq_true, decide_eq_true_iff, decide_eq_true_iff, decide_eq_true_iff, Int64.lt_iff_toInt_lt, ← Int64.toInt_inj, z]
    constructor
    · intro w
      exact Or.inr ⟨rfl, w⟩
    · intro w
      rcases w with w | w
      · exact absurd w (Int.lt_irrefl _)
      · exact w.2
  · rw [if_neg z, decide_eq_true_iff, Int32.lt_iff_toInt_lt]
    have z2 : ¬ (S d r).toInt = (S d q).toInt := fun y => z (Int32.toInt_inj.mp y)
    exact ⟨Or.inl, fun w => w.elim id fun y => absurd y.1 z2⟩
theorem rpref_iff (B : BS) (S : Nat → Nat → Int32) (r d e : Nat) : p_rpref B S r d e = true ↔ (p_price B S d r).toInt < (p_price B S e r).toInt ∨ ((p_price B S d r).toInt = (p_price B S e r).toInt ∧ d < e) := by
  unfold p_rpref
  rw [Bool.or_eq_true, Bool.and_eq_true, decide_eq_true_iff, decide_eq_true_iff, decide_eq_true_iff, Int32.lt_iff_toInt_lt, ← Int32.toInt_inj]
theorem dp_tr {B : BS} {S : Nat → Nat → Int32} {d r q p : Nat} (h : p_dpref B S d r q = true) (h2 : p_dpref B S d q p = true) : p_dpref B S d r p = true := by
  rw [dpref_iff] at h h2 ⊢
  generalize (S d r).toInt = a1 at *
  generalize (S d q).toInt = a2 at *
  generalize (S d p).toInt = a3 at *
  generalize (qcr (bX B r)).toInt = c1 at *
  generalize (qcr (bX B q)).toInt = c2 at *
  generalize (qcr (bX B p)).toInt = c3 at *
  omega
theorem dp_tri {B : BS} {S : Nat → Nat → Int32} {d r q : Nat} (ne : ¬ r = q) (h : ¬ p_dpref B S d r q = true) : p_dpref B S d q r = true := by
  rw [dpref_iff] at h ⊢
  generalize (S d r).toInt = a1 at *
  generalize (S d q).toInt = a2 at *
  generalize (qcr (bX B r)).toInt = c1 at *
  generalize (qcr (bX B q)).toInt = c2 at *
  omega
theorem rp_tr {B : BS} {S : Nat → Nat → Int32} {r d e f : Nat} (h : p_rpref B S r d e = true) (h2 : p_rpref B S r e f = true) : p_rpref B S r d f = true := by
  rw [rpref_iff] at h h2 ⊢
  generalize (p_price B S d r).toInt = a1 at *
  generalize (p_price B S e r).toInt = a2 at *
  generalize (p_price B S f r).toInt = a3 at *
  omega
theorem rp_tri {B : BS} {S : Nat → Nat → Int32} {r d e : Nat} (ne : ¬ d = e) (h : ¬ p_rpref B S r d e = true) : p_rpref B S r e d = true := by
  rw [rpref_iff] at h ⊢
  generalize (p_price B S d r).toInt = a1 at *
  generalize (p_price B S e r).toInt = a2 at *
  omega
theorem rp_asym {B : BS} {S : Nat → Nat → Int32} {r d e : Nat} (h : p_rpref B S r d e = true) : ¬ p_rpref B S r e d = true := by
  rw [rpref_iff] at h ⊢
  generalize (p_price B S d r).toInt = a1 at *
  generalize (p_price B S e r).toInt = a2 at *
  omega
theorem mbest_s (B : BS) (S : Nat → Nat → Int32) (A : Nat → Int32) (r k : Nat) : m_best B S A r (k + 1) = if m_open S A r k then (match m_best B S A r k with
      | none => some k
      | some b => if p_rpref B S r k b then some k else some b) else m_best B S A r k := rfl
theorem mbest_v (B : BS) (S : Nat → Nat → Int32) (A : Nat → Int32) (r : Nat) : ∀ k, (m_best B S A r k = none → ∀ e, e < k → m_open S A r e = false) ∧ ∀ b, m_best B S A r k = some b → b < k ∧ m_open S A r b = true ∧ ∀ e, e < k → m_open S A r e = true → ¬ e = b → p_rpref B S r b e = true
  | 0 => ⟨fun _ e h => absurd h (by omega), fun b h => by cases h⟩
  | k + 1 => by
    obtain ⟨i1, i2⟩ := mbest_v B S A r k
    rw [mbest_s]
    cases o : m_open S A r k
    · rw [if_neg (by decide)]
      refine ⟨fun h e he => ?_, fun b h => ?_⟩
      · by_cases z : e = k
        · rw [z]
          exact o
        · exact i1 h e (by omega)
      · obtain ⟨b1, b2, b3⟩ := i2 b h
        refine ⟨by omega, b2, fun e he ho ne => ?_⟩
        by_cases z : e = k
        · rw [z, o] at ho
          cases ho
        · exact b3 e (by omega) ho ne
    · rw [if_pos rfl]
      cases m : m_best B S A r k with
      | none =>
        refine ⟨fun h => (by cases h), fun b h => ?_⟩
        cases h
        refine ⟨by omega, o, fun e he ho ne => ?_⟩
        have := i1 m e (by omega)
        rw [this] at ho
        cases ho
      | some b =>
        obtain ⟨b1, b2, b3⟩ := i2 b m
        by_cases p : p_rpref B S r k b = true
        · refine ⟨fun h => ?_, fun b' h => ?_⟩
          · have h : (if p_rpref B S r k b then some k else some b) = none := h
            rw [if_pos p] at h
            cases h
          · have h : (if p_rpref B S r k b then some k else some b) = some b' := h
            rw [if_pos p] at h
            cases h
            refine ⟨by omega, o, fun e he ho ne => ?_⟩
            by_cases z : e = b
            · rw [z]
              exact p
            · exact rp_tr p (b3 e (by omega) ho z)
        · refine ⟨fun h => ?_, fun b' h => ?_⟩
          · have h : (if p_rpref B S r k b then some k else some b) = none := h
            rw [if_neg p] at h
            cases h
          · have h : (if p_rpref B S r k b then some k else some b) = some b' := h
            rw [if_neg p] at h
            cases h
            refine ⟨by omega, b2, fun e he ho ne => ?_⟩
            by_cases z : e = k
            · subst z
              exact rp_tri (by omega) p
            · exact b3 e (by omega) ho ne
theorem mhold_s (B : BS) (S : Nat → Nat → Int32) (H : Nat → Int32) (d r k : Nat) : m_hold B S H d r (k + 1) = if H k = nI d then ((m_hold B S H d r k).1 + 1, if p_dpref B S d (m_hold B S H d r k).2 k then k else (m_hold B S H d r k).2) else m_hold B S H d r k := rfl
theorem mhold_v (B : BS) (S : Nat → Nat → Int32) (H : Nat → Int32) (d r : Nat) : ∀ k, (m_hold B S H d r k).1 = i_count (fun q => decide (H q = nI d)) k ∧ ((m_hold B S H d r k).2 = r ∨ ((m_hold B S H d r k).2 < k ∧ H (m_hold B S H d r k).2 = nI d)) ∧ ∀ q, q < k → H q = nI d → ¬ q = (m_hold B S H d r k).2 → p_dpref B S d q (m_hold B S H d r k).2 = true
  | 0 => ⟨rfl, Or.inl rfl, fun q h => absurd h (by omega)⟩
  | k + 1 => by
    obtain ⟨i1, i2, i3⟩ := mhold_v B S H d r k
    rw [mhold_s, i_count_s]
    by_cases z : H k = nI d
    · rw [if_pos z, if_pos (decide_eq_true z)]
      by_cases p : p_dpref B S d (m_hold B S H d r k).2 k = true
      · rw [if_pos p]
        refine ⟨by show _ + 1 = _; rw [i1], Or.inr ⟨by show k < k + 1; omega, z⟩, fun q hq hz ne => ?_⟩
        have ne : ¬ q = k := ne
        show p_dpref B S d q k = true
        by_cases y : q = (m_hold B S H d r k).2
        · rw [y]
          exact p
        · exact dp_tr (i3 q (by omega) hz y) p
      · rw [if_neg p]
        refine ⟨by show _ + 1 = _; rw [i1], ?_, fun q hq hz ne => ?_⟩
        · rcases i2 with y | ⟨y, w⟩
          · exact Or.inl y
          · exact Or.inr ⟨by show (m_hold B S H d r k).2 < k + 1; omega, w⟩
        · have ne : ¬ q = (m_hold B S H d r k).2 := ne
          show p_dpref B S d q (m_hold B S H d r k).2 = true
          by_cases y : q = k
          · subst y
            exact dp_tri (fun w => ne w.symm) p
          · exact i3 q (by omega) hz ne
    · rw [if_neg z, if_neg (by rw [decide_eq_false z]; decide)]
      refine ⟨i1, ?_, fun q hq hz ne => ?_⟩
      · rcases i2 with y | ⟨y, w⟩
        · exact Or.inl y
        · exact Or.inr ⟨by omega, w⟩
      · by_cases y : q = k
        · subst y
          exact absurd hz z
        · exact i3 q (by omega) hz ne
theorem ic_dropb {P Q : Nat → Bool} {r : Nat} (hp : P r = false) (hq : Q r = true) : ∀ k, (∀ q, q < k → ¬ q = r → P q = Q q) → r < k → i_count P k + 1 = i_count Q k
  | 0, _, z => absurd z (by omega)
  | k + 1, e, z => by
    show i_count P k + (if P k then 1 else 0) + 1 = i_count Q k + (if Q k then 1 else 0)
    by_cases w : r = k
    · subst w
      rw [hp, hq, if_neg (by decide), if_pos rfl, ic_c r fun q hq => e q (by omega) (by omega)]
    · have := ic_dropb hp hq k (fun q hq => e q (by omega)) (by omega)
      rw [e k (by omega) (fun y => w y.symm)]
      omega
def seat (B : BS) (d : Nat) : Nat := (dse (bD B d)).toInt.toNat
def hcn (B : BS) (H : Nat → Int32) (d : Nat) : Nat := i_count (fun q => decide (H q = nI d)) (bnr B)
def hbt (B : BS) (S : Nat → Nat → Int32) (H : Nat → Int32) (d r : Nat) : Nat := i_count (fun q => decide (H q = nI d) && p_dpref B S d q r) (bnr B)
/-- the invariant of the asking -/
def DA (B : BS) (S : Nat → Nat → Int32) (H A : Nat → Int32) : Prop :=
  (∀ r, r < bnr B → H r = -1 ∨ ∃ d, d < bnd B ∧ H r = nI d ∧ bt (A r) d = true) ∧
  (∀ r d, r < bnr B → d < bnd B → bt (A r) d = true → qst (bX B r) = 0 ∧ p_fit S d r = true) ∧
  (∀ r d e, r < bnr B → d < bnd B → e < bnd B → bt (A r) d = true → p_fit S e r = true → p_rpref B S r e d = true → bt (A r) e = true) ∧
  (∀ r d, r < bnr B → d < bnd B → bt (A r) d = true → ¬ H r = nI d → seat B d ≤ hbt B S H d r) ∧
  ∀ d, d < bnd B → hcn B H d ≤ seat B d
/-- nobody has anybody left to ask -/
def DT (B : BS) (S : Nat → Nat → Int32) (H A : Nat → Int32) : Prop := ∀ r, r < bnr B → qst (bX B r) = 0 → H r = -1 → m_best B S A r (bnd B) = none
theorem hbt_le (B : BS) (S : Nat → Nat → Int32) (H : Nat → Int32) (d r : Nat) : hbt B S H d r ≤ hcn B H d := ic_sub _ fun q _ w => by
  have w : (decide (H q = nI d) && p_dpref B S d q r) = true := w
  rw [Bool.and_eq_true] at w
  exact w.1
theorem hbt_all {B : BS} {S : Nat → Nat → Int32} {H : Nat → Int32} {d r : Nat} (h : hcn B H d ≤ hbt B S H d r) {q : Nat} (hq : q < bnr B) (hz : H q = nI d) : p_dpref B S d q r = true := by
  cases e : p_dpref B S d q r
  · have := ic_sub1 (A := fun q => decide (H q = nI d) && p_dpref B S d q r) (B := fun q => decide (H q = nI d)) (r := q) (by show (_ && p_dpref B S d q r) = false; rw [e, Bool.and_false]) (decide_eq_true hz) (bnr B) hq fun q _ w => by
      have w : (decide (H q = nI d) && p_dpref B S d q r) = true := w
      rw [Bool.and_eq_true] at w
      exact w.1
    unfold hcn hbt at h
    omega
  · rfl
theorem hbt_eq {B : BS} {S : Nat → Nat → Int32} {H : Nat → Int32} {d r : Nat} (h : ∀ q, q < bnr B → H q = nI d → p_dpref B S d q r = true) : hbt B S H d r = hcn B H d := ic_c _ fun q hq => by
  show (decide (H q = nI d) && p_dpref B S d q r) = decide (H q = nI d)
  by_cases z : H q = nI d
  · rw [h q hq z, Bool.and_true]
  · rw [decide_eq_false z, Bool.false_and]
theorem hcn_c {B : BS} {H H' : Nat → Int32} {d : Nat} (h : ∀ q, q < bnr B → (H' q = nI d ↔ H q = nI d)) : hcn B H' d = hcn B H d := ic_c _ fun q hq => decide_eq_decide.mpr (h q hq)
theorem hbt_c {B : BS} {S : Nat → Nat → Int32} {H H' : Nat → Int32} {d r : Nat} (h : ∀ q, q < bnr B → (H' q = nI d ↔ H q = nI d)) : hbt B S H' d r = hbt B S H d r := ic_c _ fun q hq => by
  show (decide (H' q = nI d) && _) = (decide (H q = nI d) && _)
  rw [decide_eq_decide.mpr (h q hq)]
theorem open_bt {S : Nat → Nat → Int32} {A : Nat → Int32} {r d : Nat} (hd : d < 32) : m_open S A r d = (p_fit S d r && !bt (A r) d) := by
  unfold m_open
  rw [ib_bt hd]
/-- one asks: the new state, told by what it does -/
theorem DA.go {B : BS} {S : Nat → Nat → Int32} {H A H' A' : Nat → Int32} {r d : Nat} (x : DA B S H A) (h8 : bnd B ≤ 8) (hr : r < bnr B) (hd : d < bnd B) (hw : qst (bX B r) = 0) (h0 : H r = -1) (hf : p_fit S d r = true) (hbst : ∀ e, e < bnd B → p_fit S e r = true → bt (A r) e = false → ¬ e = d → p_rpref B S r d e = true)
    (hA : ∀ q e, q < bnr B → e < bnd B → (bt (A' q) e = true ↔ bt (A q) e = true ∨ (q = r ∧ e = d)))
    (hH : ((∀ q, q < bnr B → H' q = if q = r then nI d else H q) ∧ hcn B H d + 1 ≤ seat B d) ∨ ∃ w, w < bnr B ∧ (w = r ∨ H w = nI d) ∧ (∀ q, q < bnr B → (q = r ∨ H q = nI d) → ¬ q = w → p_dpref B S d q w = true) ∧ (∀ q, q < bnr B → H' q = if q = w then -1 else if q = r then nI d else H q) ∧ seat B d < hcn B H d + 1) : DA B S H' A' := by
  obtain ⟨x1, x2, x3, x4, x5⟩ := x
  have mI : ∀ a b, a < bnd B → b < bnd B → nI a = nI b → a = b := fun a b ha hb z => (nI_inj (by omega) (by omega)).mp z
  have m1 : ∀ a, a < bnd B → ¬ (-1 : Int32) = nI a := fun a ha z => nI_ne_m1 (a := a) (by omega) z.symm
  -- other drivers' holders
  have oth : ∀ e, e < bnd B → ¬ e = d → ∀ q, q < bnr B → (H' q = nI e ↔ H q = nI e) := fun e he ne q hq => by
    rcases hH with ⟨k1, -⟩ | ⟨w, w1, w2, w3, w4, -⟩
    · rw [k1 q hq]
      by_cases z : q = r
      · rw [if_pos z, z, h0]
        exact ⟨fun y => absurd (mI d e hd he y).symm ne, fun y => absurd y (m1 e he)⟩
      · rw [if_neg z]
    · rw [w4 q hq]
      by_cases y : q = w
      · rw [if_pos y]
        refine ⟨fun z => absurd z (m1 e he), fun z => ?_⟩
        rcases w2 with w2 | w2
        · rw [y, w2, h0] at z
          exact absurd z (m1 e he)
        · rw [y, w2] at z
          exact absurd (mI d e hd he z).symm ne
      · rw [if_neg y]
        by_cases z : q = r
        · rw [if_pos z, z, h0]
          exact ⟨fun y => absurd (mI d e hd he y).symm ne, fun y => absurd y (m1 e he)⟩
        · rw [if_neg z]
  have h1c : i_count (fun q => decide ((if q = r then nI d else H q) = nI d)) (bnr B) = hcn B H d + 1 := by
    refine (ic_drop (P := fun q => decide (H q = nI d)) (r := r) (fun q ne => ?_) ?_ ?_ _ hr).symm
    · show decide (H q = nI d) = decide ((if q = r then nI d else H q) = nI d)
      rw [if_neg ne]
    · show decide (H r = nI d) = false
      rw [h0]
      exact decide_eq_false (m1 d hd)
    · show decide ((if r = r then nI d else H r) = nI d) = true
      rw [if_pos rfl]
      exact decide_eq_true rfl
  have h5 := x5 d hd
  have dropc : ∀ w, w < bnr B → (w = r ∨ H w = nI d) → (∀ q, q < bnr B → H' q = if q = w then -1 else if q = r then nI d else H q) → hcn B H' d + 1 = hcn B H d + 1 := fun w w1 w2 w4 => by
    rw [← h1c]
    refine ic_dropb (r := w) ?_ ?_ _ (fun p hp ne => ?_) w1
    · show decide (H' w = nI d) = false
      rw [w4 w w1, if_pos rfl]
      exact decide_eq_false (m1 d hd)
    · refine decide_eq_true ?_
      by_cases z : w = r
      · rw [if_pos z]
      · rw [if_neg z]
        exact w2.resolve_left z
    · show decide (H' p = nI d) = decide ((if p = r then nI d else H p) = nI d)
      rw [w4 p hp, if_neg ne]
  refine ⟨fun q hq => ?_, fun q e hq he hb => ?_, fun q e e' hq he he' hb hf' hp => ?_, fun q e hq he hb hn => ?_, fun e he => ?_⟩
  · have bit : ∀ e, e < bnd B → bt (A q) e = true → bt (A' q) e = true := fun e he z => (hA q e hq he).mpr (Or.inl z)
    have nw : q = r → bt (A' q) d = true := fun z => (hA q d hq hd).mpr (Or.inr ⟨z, rfl⟩)
    have old : H q = -1 ∨ ∃ d, d < bnd B ∧ H q = nI d ∧ bt (A' q) d = true := by
      rcases x1 q hq with a | ⟨e, a, b, c⟩
      · exact Or.inl a
      · exact Or.inr ⟨e, a, b, bit e a c⟩
    rcases hH with ⟨k1, -⟩ | ⟨w, w1, w2, w3, w4, -⟩
    · rw [k1 q hq]
      by_cases z : q = r
      · rw [if_pos z]
        exact Or.inr ⟨d, hd, rfl, nw z⟩
      · rw [if_neg z]
        exact old
    · rw [w4 q hq]
      by_cases y : q = w
      · rw [if_pos y]
        exact Or.inl rfl
      · rw [if_neg y]
        by_cases z : q = r
        · rw [if_pos z]
          exact Or.inr ⟨d, hd, rfl, nw z⟩
        · rw [if_neg z]
          exact old
  · rcases (hA q e hq he).mp hb with z | ⟨z1, z2⟩
    · exact x2 q e hq he z
    · rw [z1, z2]
      exact ⟨hw, hf⟩
  · refine (hA q e' hq he').mpr ?_
    rcases (hA q e hq he).mp hb with z | ⟨z1, z2⟩
    · exact Or.inl (x3 q e e' hq he he' z hf' hp)
    · by_cases y : e' = d
      · exact Or.inr ⟨z1, y⟩
      · refine Or.inl ?_
        cases w : bt (A q) e'
        · rw [z1] at hf' hp w
          rw [z2] at hp
          exact absurd (hbst e' he' hf' w y) (rp_asym hp)
        · rfl
  · by_cases ed : e = d
    · subst ed
      rcases hH with ⟨k1, k2⟩ | ⟨w, w1, w2, w3, w4, w5⟩
      · exfalso
        rw [k1 q hq] at hn
        by_cases z : q = r
        · rw [if_pos z] at hn
          exact hn rfl
        · rw [if_neg z] at hn
          have ob := ((hA q e hq he).mp hb).resolve_right fun y => z y.1
          have := x4 q e hq he ob hn
          have := hbt_le B S H e q
          omega
      · -- the holders now
        have hnow : ∀ p, p < bnr B → H' p = nI e → ¬ p = w ∧ (p = r ∨ H p = nI e) := fun p hp hz => by
          rw [w4 p hp] at hz
          by_cases y : p = w
          · rw [if_pos y] at hz
            exact absurd hz (m1 e he)
          · rw [if_neg y] at hz
            refine ⟨y, ?_⟩
            by_cases z : p = r
            · exact Or.inl z
            · rw [if_neg z] at hz
              exact Or.inr hz
        have cnt := dropc w w1 w2 w4
        by_cases qw : q = w
        · subst qw
          rw [hbt_eq fun p hp hz => w3 p hp (hnow p hp hz).2 (hnow p hp hz).1]
          omega
        · rw [w4 q hq, if_neg qw] at hn
          by_cases z : q = r
          · rw [if_pos z] at hn
            exact absurd rfl hn
          · rw [if_neg z] at hn
            have ob := ((hA q e hq he).mp hb).resolve_right fun y => z y.1
            have o4 := x4 q e hq he ob hn
            have all : ∀ p, p < bnr B → H p = nI e → p_dpref B S e p q = true := fun p hp hz => hbt_all (by omega) hp hz
            rw [hbt_eq fun p hp hz => ?_]
            · omega
            · obtain ⟨n1, n2⟩ := hnow p hp hz
              rcases n2 with n2 | n2
              · have wr : ¬ w = r := fun y => n1 (n2.trans y.symm)
                exact dp_tr (w3 p hp (Or.inl n2) n1) (all w w1 (w2.resolve_left wr))
              · exact all p hp n2
    · have ob := ((hA q e hq he).mp hb).resolve_right fun y => ed y.2
      rw [hbt_c (oth e he ed)]
      exact x4 q e hq he ob fun y => hn ((oth e he ed q hq).mpr y)
  · by_cases ed : e = d
    · subst ed
      rcases hH with ⟨k1, k2⟩ | ⟨w, w1, w2, w3, w4, w5⟩
      · have : hcn B H' e = hcn B H e + 1 := by
          rw [← h1c]
          exact ic_c _ fun q hq => by
            show decide (H' q = nI e) = _
            rw [k1 q hq]
        omega
      · have cnt := dropc w w1 w2 w4
        omega
    · rw [hcn_c (oth e he ed)]
      exact x5 e he
