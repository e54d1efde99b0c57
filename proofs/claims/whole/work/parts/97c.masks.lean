theorem b_1 (i : Nat) : bt 1 i = decide (i = 0) := by
  rcases Nat.lt_or_ge i 32 with h | h
  · exact (by decide +kernel : ∀ i, i < 32 → bt 1 i = decide (i = 0)) i h
  · rw [b_big h, decide_eq_false (by omega)]
theorem b_1sh : ∀ q, q < 32 → ∀ i, i < 32 → bt ((1 : Int32) <<< (nI q &&& 31)) i = decide (i = q) := by decide +kernel
theorem ib_bt {m : Int32} {r : Nat} (hr : r < 32) : i_bit m (nI r) = bt m r := by
  have e : i_ushr m (nI r) = (m.toUInt32 >>> ((nI r).toUInt32 &&& Int32.toUInt32 31)).toInt32 := rfl
  unfold i_bit
  rw [e]
  have b0 : bt ((m.toUInt32 >>> ((nI r).toUInt32 &&& Int32.toUInt32 31)).toInt32 &&& 1) 0 = bt m r := by
    rw [b_and, b_ushr _ hr, b_1, decide_eq_true rfl, Bool.and_true]
    rfl
  cases q : bt m r
  · refine decide_eq_false fun z => z (b_ext fun i hi => ?_)
    rw [b_0, b_and, b_1]
    by_cases y : i = 0
    · subst y
      rw [b_ushr _ hr]
      show (bt m (r + 0) && _) = false
      rw [Nat.add_zero, q]
      rfl
    · rw [decide_eq_false y, Bool.and_false]
  · refine decide_eq_true fun z => ?_
    rw [z, b_0, q] at b0
    exact absurd b0 (by decide)
theorem w_mask_b (g : Nat → Int32) (d : Nat) {i : Nat} (hi : i < 32) : ∀ k, k ≤ 20 → bt (w_maskTo g d k) i = decide (i < k ∧ gr g i 7 = nI d)
  | 0, _ => by
    show bt 0 i = _
    rw [b_0, decide_eq_false (fun z => absurd z.1 (by omega))]
  | k + 1, hk => by
    show bt (w_maskTo g d k ||| (if gr g k 7 = nI d then (1 : Int32) <<< (nI k &&& 31) else 0)) i = _
    rw [b_or, w_mask_b g d hi k (by omega)]
    by_cases y : gr g k 7 = nI d
    · rw [if_pos y, b_1sh k (by omega) i hi]
      by_cases z : i = k
      · subst z
        rw [decide_eq_true (p := i = i) rfl, Bool.or_true]
        exact (decide_eq_true ⟨by omega, y⟩).symm
      · rw [decide_eq_false z, Bool.or_false]
        exact decide_eq_decide.mpr ⟨fun w => ⟨by omega, w.2⟩, fun w => ⟨by omega, w.2⟩⟩
    · rw [if_neg y, b_0, Bool.or_false]
      refine decide_eq_decide.mpr ⟨fun w => ⟨by omega, w.2⟩, fun w => ⟨?_, w.2⟩⟩
      rcases Nat.lt_or_ge i k with z | z
      · exact z
      · have : i = k := by omega
        subst this
        exact absurd w.2 y
theorem RtX.maskP {g : Nat → Int32} {d : Nat} {R : RS} {l : List Int32} (h : RtX g d R l) (hc : ∀ c, c ∈ l → SCode c) {i : Nat} (hi : i < 32) : ∀ k, k ≤ l.length → bt (r_maskTo R (k + 1)) i = decide (nI i ∈ l.take k)
  | 0, _ => by
    have e : r_maskTo R 1 = if r_pick R 0 then r_maskTo R 0 ||| ((1 : Int32) <<< (rc R 0 &&& 31)) else r_maskTo R 0 := rfl
    rw [e, pick_m1 h.2.2.2.1, if_neg (by decide), decide_eq_false (by simp)]
    exact b_0 i
  | k + 1, hk => by
    have e : r_maskTo R (k + 1 + 1) = if r_pick R (k + 1) then r_maskTo R (k + 1) ||| ((1 : Int32) <<< (rc R (k + 1) &&& 31)) else r_maskTo R (k + 1) := rfl
    have ih := RtX.maskP h hc hi k (by omega)
    obtain ⟨hq, e9⟩ := (hc _ (getD_mem (l := l) (i := k) (by omega))).num
    rw [e, h.pick hc (by omega), (h.2.2.2.2.2 k (by omega)).1, tk_s l (by omega)]
    have em : nI i ∈ l.take k ++ [l.getD k 0] ↔ nI i ∈ l.take k ∨ nI i = l.getD k 0 := by
      rw [List.mem_append, List.mem_singleton]
    by_cases y : l.getD k 0 < 100
    · rw [if_pos (decide_eq_true y), b_or, ih]
      have e2 : l.getD k 0 = nI (c_num (l.getD k 0)) := by
        rcases e9 with e9 | e9
        · exact e9
        · rw [e9] at y
          exact absurd y (c_of _ hq).2.1
      generalize c_num (l.getD k 0) = q at hq e2
      have e3 : bt ((1 : Int32) <<< (l.getD k 0 &&& 31)) i = decide (i = q) := by
        rw [e2]
        exact b_1sh q (by omega) i hi
      rw [e3, ← Bool.decide_or]
      refine decide_eq_decide.mpr (Iff.trans ?_ em.symm)
      rw [e2]
      exact or_congr Iff.rfl (nI_inj (by omega) (by omega)).symm
    · rw [if_neg (by rw [decide_eq_false y]; decide), ih]
      refine decide_eq_decide.mpr ⟨fun w => em.mpr (Or.inl w), fun w => ?_⟩
      rcases em.mp w with w | w
      · exact w
      · exfalso
        rcases e9 with e9 | e9
        · rw [e9] at y
          exact y (c_of _ hq).1
        · have := (nI_inj (by omega) (by omega)).mp (w.trans e9)
          omega
theorem RtX.mask {g : Nat → Int32} {d : Nat} {R : RS} {l : List Int32} (h : RtX g d R l) (hc : ∀ c, c ∈ l → SCode c) {i : Nat} (hi : i < 32) : bt (r_mask R) i = decide (nI i ∈ l) := by
  have e : r_mask R = if r_pick R (l.length + 1) then r_maskTo R (l.length + 1) ||| ((1 : Int32) <<< (rc R (l.length + 1) &&& 31)) else r_maskTo R (l.length + 1) := by
    unfold r_mask
    rw [h.1]
    rfl
  rw [e, pick_m1 h.2.2.2.2.1, if_neg (by decide), h.maskP hc hi l.length (Nat.le_refl _), List.take_length]
theorem IvM.mem {g : Nat → Int32} {d nr : Nat} {l : List Int32} (h : IvM g d nr l) (hc : ∀ c, c ∈ l → SCode c) (h20 : nr ≤ 20) {i : Nat} (hi : i < 32) : nI i ∈ l ↔ i < nr ∧ gr g i 7 = nI d := by
  constructor
  · intro m
    obtain ⟨hq, e⟩ := (hc _ m).num
    have e2 : i = c_num (nI i) := by
      rcases e with e | e
      · exact (nI_inj (by omega) (by omega)).mp e
      · have := (nI_inj (by omega) (by omega)).mp e
        omega
    have := h.code hc m
    rw [← e2] at this
    exact this
  · intro w
    have f := h i (by omega)
    rw [if_pos w] at f
    have m : nI i ∈ l.filter (ofr i) := by
      rw [f]
      exact List.mem_cons_self
    exact (List.mem_filter.mp m).1
/-- THE RIDERS as bits -/
theorem RB.maskb {B : BS} {g : Nat → Int32} {c : Nat → Int64} (h : RB B g c) {d : Nat} (hd : d < bnd B) {i : Nat} (hi : i < 32) : bt (r_mask (bT B d)) i = decide (i < bnr B ∧ gr g i 7 = nI d) := by
  have iL := (h.2.1.1 d hd).2
  rw [(h.2.2 d hd).mask iL.1.2.2.2 hi]
  exact decide_eq_decide.mpr (iL.2.2.mem iL.1.2.2.2 h.1.2.1 hi)
theorem RB.mask {B : BS} {g : Nat → Int32} {c : Nat → Int64} (h : RB B g c) {d : Nat} (hd : d < bnd B) : r_mask (bT B d) = w_maskTo g d (bnr B) := b_ext fun i hi => by
  rw [h.maskb hd hi, w_mask_b g d hi _ h.1.2.1]
theorem RB.isin {B : BS} {g : Nat → Int32} {c : Nat → Int64} (h : RB B g c) {d r : Nat} (hd : d < bnd B) (hr : r < bnr B) : i_bit (r_mask (bT B d)) (nI r) = decide (gr g r 7 = nI d) := by
  have h20 := h.1.2.1
  rw [ib_bt (by omega), h.maskb hd (by omega)]
  exact decide_eq_decide.mpr ⟨fun w => w.2, fun w => ⟨hr, w⟩⟩
theorem half_c : ∀ c, c ≤ 20 → (nI (2 * c + 2) - 2) / 2 = nI c := by decide +kernel
theorem RB.half {B : BS} {g : Nat → Int32} {c : Nat → Int64} (h : RB B g c) {d : Nat} (hd : d < bnd B) : (nI (rn (bT B d)) - 2) / 2 = nI (i_count (inP g d) (bnr B)) ∧ gd g d 9 = nI (2 * i_count (inP g d) (bnr B)) ∧ i_count (inP g d) (bnr B) ≤ 20 ∧ (rl g d).length = 2 * i_count (inP g d) (bnr B) := by
  have iL := (h.2.1.1 d hd).2
  have e := iL.2.2.len iL.1.2.2.2 h.1.2.1
  have h40 := iL.1.2.2.1
  refine ⟨?_, by rw [iL.1.1, e], by omega, e⟩
  rw [(h.2.2 d hd).1, e]
  exact half_c _ (by omega)
theorem Sx.none {x y : Int32} (h : Sx x y) : o_none y = x := by
  unfold o_none
  rcases h with ⟨a, b⟩ | ⟨a, b, e⟩
  · rw [if_pos b, a]
  · rw [e, if_neg (big_ne b)]
/-- THE EXTRA, any rider's -/
theorem RB.inr {B : BS} {g : Nat → Int32} {c : Nat → Int64} (h : RB B g c) {d r : Nat} (hd : d < bnd B) (hr : r < bnr B) : Sx (s_inr B r d) (w_extra g r d (rl g d)) := by
  unfold s_inr
  rw [h.isin hd hr]
  by_cases q : gr g r 7 = nI d
  · rw [if_pos (decide_eq_true q)]
    unfold w_extra
    rw [if_pos q]
    exact Or.inl ⟨rfl, rfl⟩
  · rw [if_neg (by rw [decide_eq_false q]; decide)]
    rcases h.ext hd hr q with ⟨a, b⟩ | ⟨a, b, e, -⟩
    · exact Or.inl ⟨a, b⟩
    · exact Or.inr ⟨a, b, e⟩
theorem big_lt {x : Int32} (h : x.toInt ≤ 1000) : x < 1000000000 := by
  rw [Int32.lt_iff_toInt_lt, big9]
  omega
theorem big_nlt {x : Int32} (h : x.toInt ≤ 1000) : ¬ 1000000000 < x := by
  rw [Int32.lt_iff_toInt_lt, big9]
  omega
theorem big_irr : ¬ (1000000000 : Int32) < 1000000000 := by decide
/-- the best driver so far -/
def Bdr (s t : Int32 × Int32) : Prop := (s = (-1, -1) ∧ t = (-1, 1000000000)) ∨ (s = t ∧ ¬ s.1 = -1 ∧ 0 ≤ s.2.toInt ∧ s.2.toInt ≤ 1000)
theorem RB.wext {B : BS} {g : Nat → Int32} {c : Nat → Int64} (h : RB B g c) {d r : Nat} (hd : d < bnd B) (hr : r < bnr B) : Sx (f_e B r d) (w_ext g (rl g) r d) := by
  have o := h.op hd
  unfold f_e w_ext
  rw [o]
  cases ddo (bD B d)
  · rw [if_neg (by decide), if_pos (show bI false = 0 by decide)]
    exact h.inr hd hr
  · rw [if_pos rfl, if_neg (show ¬ bI true = 0 by decide)]
    exact Or.inl ⟨rfl, rfl⟩
theorem RB.bdr {B : BS} {g : Nat → Int32} {c : Nat → Int64} (h : RB B g c) {r : Nat} (hr : r < bnr B) : ∀ k, k ≤ bnd B → Bdr (f_bd B r k) (w_bd g (rl g) r k)
  | 0, _ => Or.inl ⟨rfl, rfl⟩
  | k + 1, hk => by
    have h8 := h.1.1
    have ih := RB.bdr h hr k (by omega)
    have sx := h.wext (d := k) (by omega) hr
    have e1 : f_bd B r (k + 1) = if ¬ f_e B r k = -1 ∧ ((f_bd B r k).1 = -1 ∨ f_e B r k < (f_bd B r k).2) then (nI k, f_e B r k) else f_bd B r k := rfl
    have e2 : w_bd g (rl g) r (k + 1) = if w_ext g (rl g) r k < (w_bd g (rl g) r k).2 then (nI k, w_ext g (rl g) r k) else w_bd g (rl g) r k := rfl
    rw [e1, e2]
    generalize f_e B r k = x at sx
    generalize w_ext g (rl g) r k = y at sx
    generalize f_bd B r k = s at ih
    generalize w_bd g (rl g) r k = t at ih
    rcases sx with ⟨a, b⟩ | ⟨a, b, e⟩
    · rw [a, b, if_neg (fun z => z.1 rfl), if_neg]
      · exact ih
      · rcases ih with ⟨-, q⟩ | ⟨q, -, -, q2⟩
        · rw [q]
          exact big_irr
        · rw [← q]
          exact big_nlt q2
    · rw [e]
      rcases ih with ⟨q, q1⟩ | ⟨q, q1, q2, q3⟩
      · rw [q, q1, if_pos ⟨m1_ne a, Or.inl rfl⟩, if_pos (big_lt b)]
        exact Or.inr ⟨rfl, nI_ne_m1 (by omega), a, b⟩
      · rw [← q]
        by_cases z : x < s.2
        · rw [if_pos ⟨m1_ne a, Or.inr z⟩, if_pos z]
          exact Or.inr ⟨rfl, nI_ne_m1 (by omega), a, b⟩
        · rw [if_neg (fun y => (y.2.elim (fun w => q1 w) (fun w => z w))), if_neg z]
          exact Or.inr ⟨rfl, q1, q2, q3⟩
theorem RB.best {B : BS} {g : Nat → Int32} {c : Nat → Int64} (h : RB B g c) {r : Nat} (hr : r < bnr B) : (f_bd B r (bnd B)).1 = (w_bd g (rl g) r (bnd B)).1 := by
  rcases h.bdr hr (bnd B) (Nat.le_refl _) with ⟨a, b⟩ | ⟨a, -⟩
  · rw [a, b]
  · rw [a]
/-- the best replacement so far -/
def Brp (B : BS) (d k : Nat) (s : Int32 × Int32 × Int64) (t : Int32 × Int32) : Prop := (s = (-1, -1, 0) ∧ t = (-1, 1000000000)) ∨ ∃ q, q < k ∧ s = (nI q, t.2, qcr (bX B q)) ∧ t.1 = nI q ∧ 0 ≤ t.2.toInt ∧ t.2.toInt ≤ 1000 ∧ qst (bX B q) = 0 ∧ g_e B d q = t.2
theorem RB.rex {B : BS} {g : Nat → Int32} {c : Nat → Int64} (h : RB B g c) {d r : Nat} (hd : d < bnd B) (hr : r < bnr B) (hop : gd g d 8 = 0) : Sx (g_e B d r) (w_rex g d (rl g d) r) := by
  have s := (h.st hr).1
  unfold g_e w_rex
  rw [← s]
  by_cases q : gr g r 6 = 0
  · rw [if_pos q, if_pos ⟨hop, q⟩]
    exact h.inr hd hr
  · rw [if_neg q, if_neg (fun z => q z.2)]
    exact Or.inl ⟨rfl, rfl⟩
theorem RB.brp {B : BS} {g : Nat → Int32} {c : Nat → Int64} (h : RB B g c) {d : Nat} (hd : d < bnd B) (hop : gd g d 8 = 0) : ∀ k, k ≤ bnr B → Brp B d k (g_br B d k) (w_rp g c d (rl g d) k)
  | 0, _ => Or.inl ⟨rfl, rfl⟩
  | k + 1, hk => by
    have h20 := h.1.2.1
    have ih := RB.brp h hd hop k (by omega)
    have sx := h.rex hd (r := k) (by omega) hop
    have ck := (h.st (r := k) (by omega)).2.2
    have st := (h.st (r := k) (by omega)).1
    have sn : ¬ g_e B d k = -1 → qst (bX B k) = 0 := fun z => by
      unfold g_e at z
      by_cases y : qst (bX B k) = 0
      · exact y
      · rw [if_neg y] at z
        exact absurd rfl z
    have e1 : g_br B d (k + 1) = if ¬ g_e B d k = -1 ∧ ((g_br B d k).1 = -1 ∨ g_e B d k < (g_br B d k).2.1 ∨ (g_e B d k = (g_br B d k).2.1 ∧ (g_br B d k).2.2 < qcr (bX B k))) then (nI k, g_e B d k, qcr (bX B k)) else g_br B d k := rfl
    have e2 : w_rp g c d (rl g d) (k + 1) = if w_rex g d (rl g d) k < (w_rp g c d (rl g d) k).2 ∨ (w_rex g d (rl g d) k = (w_rp g c d (rl g d) k).2 ∧ w_rex g d (rl g d) k < 1000000000 ∧ c_more c k (i_nat (w_rp g c d (rl g d) k).1) = true) then (nI k, w_rex g d (rl g d) k) else w_rp g c d (rl g d) k := rfl
    rw [e1, e2]
    generalize hx : g_e B d k = x at sx sn
    generalize w_rex g d (rl g d) k = y at sx
    generalize g_br B d k = s at ih
    generalize w_rp g c d (rl g d) k = t at ih
    rcases sx with ⟨a, b⟩ | ⟨a, b, e⟩
    · rw [a, b, if_neg (fun z => z.1 rfl), if_neg]
      · rcases ih with ih | ⟨q, q0, q1⟩
        · exact Or.inl ih
        · exact Or.inr ⟨q, by omega, q1⟩
      · rcases ih with ⟨-, q⟩ | ⟨q, -, -, -, -, q2, -, -⟩
        · rw [q]
          exact fun z => z.elim big_irr fun w => big_irr w.2.1
        · exact fun z => z.elim (big_nlt q2) fun w => big_irr w.2.1
    · rw [e]
      have s0 := sn (m1_ne a)
      rcases ih with ⟨q, q1⟩ | ⟨q, q0, q1, q2, q3, q4, q5, q6⟩
      · rw [q, q1, if_pos ⟨m1_ne a, Or.inl rfl⟩, if_pos (Or.inl (big_lt b))]
        exact Or.inr ⟨k, by omega, rfl, rfl, a, b, s0, hx⟩
      · have cq := (h.st (r := q) (by omega)).2.2
        have em : c_more c k (i_nat t.1) = decide (c (8 + q) < c (8 + k)) := by
          rw [q2, i_nat_nI (by omega)]
          unfold c_more
          by_cases w : c (8 + k) = c (8 + q)
          · rw [if_pos w, w, decide_eq_false (show ¬ k < q by omega), decide_eq_false Int64.lt_irrefl]
          · rw [if_neg w]
        have e3 : (¬ x = -1 ∧ (s.1 = -1 ∨ x < s.2.1 ∨ (x = s.2.1 ∧ s.2.2 < qcr (bX B k)))) ↔ (x < t.2 ∨ (x = t.2 ∧ x < 1000000000 ∧ c_more c k (i_nat t.1) = true)) := by
          rw [em, decide_eq_true_iff, q1, cq, ck]
          constructor
          · rintro ⟨-, w | w | w⟩
            · exact absurd w (nI_ne_m1 (by omega))
            · exact Or.inl w
            · exact Or.inr ⟨w.1, big_lt b, w.2⟩
          · rintro (w | w)
            · exact ⟨m1_ne a, Or.inr (Or.inl w)⟩
            · exact ⟨m1_ne a, Or.inr (Or.inr ⟨w.1, w.2.2⟩)⟩
        by_cases z : x < t.2 ∨ (x = t.2 ∧ x < 1000000000 ∧ c_more c k (i_nat t.1) = true)
        · rw [if_pos z, if_pos (e3.mpr z)]
          exact Or.inr ⟨k, by omega, rfl, rfl, a, b, s0, hx⟩
        · rw [if_neg z, if_neg (fun w => z (e3.mp w))]
          exact Or.inr ⟨q, by omega, q1, q2, q3, q4, q5, q6⟩
theorem w_rp_done {g : Nat → Int32} {c : Nat → Int64} {d : Nat} {l : List Int32} (hop : ¬ gd g d 8 = 0) : ∀ k, w_rp g c d l k = (-1, 1000000000)
  | 0 => rfl
  | k + 1 => by
    have e2 : w_rp g c d l (k + 1) = if w_rex g d l k < (w_rp g c d l k).2 ∨ (w_rex g d l k = (w_rp g c d l k).2 ∧ w_rex g d l k < 1000000000 ∧ c_more c k (i_nat (w_rp g c d l k).1) = true) then (nI k, w_rex g d l k) else w_rp g c d l k := rfl
    have e3 : w_rex g d l k = 1000000000 := if_neg fun z => hop z.1
    rw [e2, e3, w_rp_done hop k, if_neg]
    exact fun z => z.elim big_irr fun w => big_irr w.2.1
/-- THE REPLACEMENT -/
theorem RB.repl {B : BS} {g : Nat → Int32} {c : Nat → Int64} (h : RB B g c) {d : Nat} (hd : d < bnd B) : b_repl B d = w_repl g c d (bnr B) ∧ (b_repl B d = -1 ∨ ∃ q, q < bnr B ∧ b_repl B d = nI q ∧ qst (bX B q) = 0 ∧ ddo (bD B d) = false ∧ ¬ s_inr B q d = -1) := by
  have h20 := h.1.2.1
  have o := h.op hd
  unfold w_repl b_repl
  cases z : ddo (bD B d)
  · rw [z] at o
    have hop : gd g d 8 = 0 := o
    rw [if_neg (by decide)]
    rcases h.brp hd hop (bnr B) (Nat.le_refl _) with ⟨a, b⟩ | ⟨q, q0, q1, q2, q3, q4, q5, q6⟩
    · rw [a, b]
      exact ⟨rfl, Or.inl rfl⟩
    · rw [q1]
      refine ⟨q2.symm, Or.inr ⟨q, q0, rfl, q5, rfl, fun w => ?_⟩⟩
      have e : g_e B d q = s_inr B q d := if_pos q5
      rw [← q6, e, w] at q3
      exact absurd q3 (by decide)
  · rw [z] at o
    rw [if_pos rfl, w_rp_done (by rw [o]; decide)]
    exact ⟨rfl, Or.inl rfl⟩
