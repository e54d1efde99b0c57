theorem b_in_i {v l u : Int32} : b_in v l u = true ↔ l.toInt ≤ v.toInt ∧ v.toInt ≤ u.toInt := by
  unfold b_in
  rw [Bool.and_eq_true, decide_eq_true_iff, decide_eq_true_iff, Int32.le_iff_toInt_le, Int32.le_iff_toInt_le]
theorem PIn.of {x y : Int32} (h : b_pl x y = true) : PIn (x, y) := by
  unfold b_pl at h
  rw [Bool.and_eq_true, b_in_i, b_in_i] at h
  have e0 : (0 : Int32).toInt = 0 := rfl
  have e9 : (99 : Int32).toInt = 99 := rfl
  rw [e0, e9] at h
  exact ⟨h.1.1, h.1.2, h.2.1, h.2.2⟩
theorem i_abs_i {x u : Int32} (h1 : 0 ≤ x.toInt) (h2 : x.toInt ≤ 99) (h3 : 0 ≤ u.toInt) (h4 : u.toInt ≤ 99) : (i_abs (x - u)).toInt = ((x.toInt - u.toInt).natAbs : Int) := by
  have e : (x - u).toInt = x.toInt - u.toInt := by
    rw [Int32.toInt_sub]
    exact Int.bmod_eq_of_le_mul_two (by omega) (by omega)
  have e0 : (0 : Int32).toInt = 0 := rfl
  unfold i_abs
  by_cases h : (0 : Int32) ≤ x - u
  · rw [if_pos h, e]
    have := Int32.le_iff_toInt_le.mp h
    rw [e, e0] at this
    omega
  · rw [if_neg h]
    have := Int32.lt_iff_toInt_lt.mp (Int32.not_le.mp h)
    rw [e, e0] at this
    rw [Int32.toInt_sub, e, e0, Int.bmod_eq_of_le_mul_two (by omega) (by omega)]
    omega
theorem dpt_i {a b : Int32 × Int32} (ha : PIn a) (hb : PIn b) : (dpt a b).toInt = ((a.1.toInt - b.1.toInt).natAbs : Int) + ((a.2.toInt - b.2.toInt).natAbs : Int) := by
  obtain ⟨a1, a2, a3, a4⟩ := ha
  obtain ⟨b1, b2, b3, b4⟩ := hb
  have e1 := i_abs_i a1 a2 b1 b2
  have e2 := i_abs_i a3 a4 b3 b4
  show (k_abs a.1 b.1 + k_abs a.2 b.2).toInt = _
  rw [k_abs_e a1 a2 b1 b2, k_abs_e a3 a4 b3 b4]
  rw [Int32.toInt_add, e1, e2]
  exact Int.bmod_eq_of_le_mul_two (by omega) (by omega)
theorem dpt_b {a b : Int32 × Int32} (ha : PIn a) (hb : PIn b) : 0 ≤ (dpt a b).toInt ∧ (dpt a b).toInt ≤ 198 := by
  rw [dpt_i ha hb]
  obtain ⟨a1, a2, a3, a4⟩ := ha
  obtain ⟨b1, b2, b3, b4⟩ := hb
  omega
theorem dpt_tri {a b c : Int32 × Int32} (ha : PIn a) (hb : PIn b) (hc : PIn c) : (dpt a c).toInt ≤ (dpt a b).toInt + (dpt b c).toInt := by
  rw [dpt_i ha hb, dpt_i hb hc, dpt_i ha hc]
  omega
/-- .. also with a rider put in -/
theorem RIn.ins {R : RS} (h : RIn R) {num : Int32} {X : RdS} {i j : Nat} (hp : PIn (qfx X, qfy X)) (hq : PIn (qtx X, qty X)) (hij : i ≤ j) (hj : j + 2 ≤ rn R) : RIn (r_ins R num X i j) := by
  intro k hk
  have hk : k < rn R + 2 := hk
  rw [pt_ins]
  by_cases c1 : k ≤ i
  · rw [if_pos c1]
    exact h k (by omega)
  · rw [if_neg c1]
    by_cases c2 : k = i + 1
    · rw [if_pos c2]
      exact hp
    · rw [if_neg c2]
      by_cases c3 : k ≤ j + 1
      · rw [if_pos c3]
        exact h (k - 1) (by omega)
      · rw [if_neg c3]
        by_cases c4 : k = j + 2
        · rw [if_pos c4]
          exact hq
        · rw [if_neg c4]
          exact h (k - 2) (by omega)
theorem lenTo_b {R : RS} (h : RIn R) (hn : rn R ≤ 100) : ∀ k, k + 1 ≤ rn R → 0 ≤ (r_lenTo R k).toInt ∧ (r_lenTo R k).toInt ≤ 198 * k
  | 0, _ => by
    show 0 ≤ (0 : Int32).toInt ∧ (0 : Int32).toInt ≤ 198 * ((0 : Nat) : Int)
    decide
  | k + 1, hk => by
    obtain ⟨h1, h2⟩ := lenTo_b h hn k (by omega)
    obtain ⟨h3, h4⟩ := dpt_b (h k (by omega)) (h (k + 1) (by omega))
    rw [lenTo_s, Int32.toInt_add, Int.bmod_eq_of_le_mul_two (by omega) (by omega)]
    omega
theorem len_b {R : RS} (h : RIn R) (h2 : 2 ≤ rn R) (hn : rn R ≤ 100) : 0 ≤ (r_len R).toInt ∧ (r_len R).toInt ≤ 19800 := by
  have := lenTo_b h hn (rn R - 1) (by omega)
  unfold r_len
  omega
theorem lng_b {R : RS} (h : RIn R) {X : RdS} {i j : Nat} (hp : PIn (qfx X, qfy X)) (hq : PIn (qtx X, qty X)) (hij : i ≤ j) (hj : j + 2 ≤ rn R) : 0 ≤ (r_lng R X i j).toInt ∧ (r_lng R X i j).toInt ≤ 1000 := by
  have pi := h i (by omega)
  have pj := h j (by omega)
  have pi1 := h (i + 1) (by omega)
  have pj1 := h (j + 1) (by omega)
  rw [lng_pt]
  by_cases e : i = j
  · subst e
    rw [if_pos rfl]
    have b1 := dpt_b pi hp
    have b2 := dpt_b hp hq
    have b3 := dpt_b pi1 hq
    have b4 := dpt_b pi pi1
    have t1 := dpt_tri pi hp pi1
    have t2 := dpt_tri hp hq pi1
    rw [dpt_s (qtx X, qty X) (pt R (i + 1))] at t2
    rw [Int32.toInt_sub, Int32.toInt_add, Int32.toInt_add]
    generalize (dpt (pt R i) (qfx X, qfy X)).toInt = v1 at *
    generalize (dpt (qfx X, qfy X) (qtx X, qty X)).toInt = v2 at *
    generalize (dpt (pt R (i + 1)) (qtx X, qty X)).toInt = v3 at *
    generalize (dpt (pt R i) (pt R (i + 1))).toInt = v4 at *
    rw [Int.bmod_eq_of_le_mul_two (x := v1 + v2) (by omega) (by omega), Int.bmod_eq_of_le_mul_two (x := v1 + v2 + v3) (by omega) (by omega), Int.bmod_eq_of_le_mul_two (by omega) (by omega)]
    omega
  · rw [if_neg e]
    have b1 := dpt_b pi hp
    have b2 := dpt_b pi1 hp
    have b3 := dpt_b pi pi1
    have b4 := dpt_b pj hq
    have b5 := dpt_b pj1 hq
    have b6 := dpt_b pj pj1
    have t1 := dpt_tri pi hp pi1
    have t2 := dpt_tri pj hq pj1
    rw [dpt_s (qfx X, qfy X) (pt R (i + 1))] at t1
    rw [dpt_s (qtx X, qty X) (pt R (j + 1))] at t2
    rw [Int32.toInt_sub, Int32.toInt_add, Int32.toInt_add, Int32.toInt_sub, Int32.toInt_add]
    generalize (dpt (pt R i) (qfx X, qfy X)).toInt = v1 at *
    generalize (dpt (pt R (i + 1)) (qfx X, qfy X)).toInt = v2 at *
    generalize (dpt (pt R i) (pt R (i + 1))).toInt = v3 at *
    generalize (dpt (pt R j) (qtx X, qty X)).toInt = v4 at *
    generalize (dpt (pt R (j + 1)) (qtx X, qty X)).toInt = v5 at *
    generalize (dpt (pt R j) (pt R (j + 1))).toInt = v6 at *
    rw [Int.bmod_eq_of_le_mul_two (x := v1 + v2) (by omega) (by omega), Int.bmod_eq_of_le_mul_two (x := v1 + v2 - v3) (by omega) (by omega), Int.bmod_eq_of_le_mul_two (x := v1 + v2 - v3 + v4) (by omega) (by omega), Int.bmod_eq_of_le_mul_two (x := v1 + v2 - v3 + v4 + v5) (by omega) (by omega), Int.bmod_eq_of_le_mul_two (by omega) (by omega)]
    omega
