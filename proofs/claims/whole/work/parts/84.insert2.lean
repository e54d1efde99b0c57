def q4 (g : Nat → Int32) (c : Int32) : Int32 × Int32 × Int32 × Int32 := (c, w_sx g c, w_sy g c, if c < 100 then gr g (c_num c) 4 else gr g (c_num c) 5)
theorem RtX.s4 {g : Nat → Int32} {d : Nat} {R : RS} {l : List Int32} (h : RtX g d R l) {i : Nat} (hi : i < l.length) : st4 R (i + 1) = q4 g (l.getD i 0) := by
  obtain ⟨a, b, c, e⟩ := h.2.2.2.2.2 i hi
  unfold st4 q4
  rw [a, b, c, e]
theorem RtX.mk4 {g : Nat → Int32} {d : Nat} {R : RS} {l : List Int32} (h0 : rn R = l.length + 2) {t0 t1 : Int32} (h1 : st4 R 0 = (-1, gd g d 0, gd g d 1, t0)) (h2 : st4 R (l.length + 1) = (-1, gd g d 2, gd g d 3, t1)) (h3 : ∀ i, i < l.length → st4 R (i + 1) = q4 g (l.getD i 0)) : RtX g d R l := by
  unfold st4 at h1 h2
  simp only [Prod.mk.injEq] at h1 h2
  refine ⟨h0, ⟨h1.2.1, h1.2.2.1⟩, ⟨h2.2.1, h2.2.2.1⟩, h1.1, h2.1, fun i hi => ?_⟩
  have := h3 i hi
  unfold st4 q4 at this
  simp only [Prod.mk.injEq] at this
  exact this
theorem RtX.e0 {g : Nat → Int32} {d : Nat} {R : RS} {l : List Int32} (h : RtX g d R l) : st4 R 0 = (-1, gd g d 0, gd g d 1, rt R 0) := by
  unfold st4
  rw [h.2.2.2.1, h.2.1.1, h.2.1.2]
theorem RtX.e1 {g : Nat → Int32} {d : Nat} {R : RS} {l : List Int32} (h : RtX g d R l) : st4 R (l.length + 1) = (-1, gd g d 2, gd g d 3, rt R (l.length + 1)) := by
  unfold st4
  rw [h.2.2.2.2.1, h.2.2.1.1, h.2.2.1.2]
/-- what stands at place p after the insertion -/
def w_at (l : List Int32) (r i j p : Nat) : Int32 := if p < i then l.getD p 0 else if p = i then nI r else if p ≤ j then l.getD (p - 1) 0 else if p = j + 1 then nI (100 + r) else l.getD (p - 2) 0
theorem gD_l {a b : List Int32} {p : Nat} (h : p < a.length) : (a ++ b).getD p 0 = a.getD p 0 := by
  simp only [List.getD_eq_getElem?_getD, List.getElem?_append_left h]
theorem gD_r {a b : List Int32} {p : Nat} (h : a.length ≤ p) : (a ++ b).getD p 0 = b.getD (p - a.length) 0 := by
  simp only [List.getD_eq_getElem?_getD, List.getElem?_append_right h]
theorem w_lay_at (l : List Int32) (r i j : Nat) (hij : i ≤ j) (hj : j ≤ l.length) : ∀ k, k ≤ l.length + 1 → ∀ p, p < (w_lay l r i j k).length → (w_lay l r i j k).getD p 0 = w_at l r i j p
  | 0, _, p, hp => by
    have : p < 0 := hp
    omega
  | k + 1, hk, p, hp => by
    have ih := w_lay_at l r i j hij hj k (by omega)
    have n0 := w_lay_n l r i j k (by omega)
    have n1 := w_lay_n l r i j (k + 1) hk
    rw [n1] at hp
    have e : w_lay l r i j (k + 1) = w_lay l r i j k ++ ((if k = i then [nI r] else []) ++ ((if k = j then [nI (100 + r)] else []) ++ (if k < l.length then [l.getD k 0] else []))) := rfl
    rw [e]
    rw [if_pos (show k ≤ l.length by omega)] at n0
    rcases Nat.lt_or_ge p (w_lay l r i j k).length with q | q
    · rw [gD_l q]
      exact ih p q
    · rw [gD_r q]
      generalize w_lay l r i j k = w at n0 q ih
      rcases Nat.lt_trichotomy k i with h1 | h1 | h1
      · rw [if_neg (show ¬ i < k by omega), if_neg (show ¬ j < k by omega)] at n0
        rw [if_neg (show ¬ i < k + 1 by omega), if_neg (show ¬ j < k + 1 by omega), if_pos (show k + 1 ≤ l.length by omega)] at hp
        have e1 : p = k := by omega
        have hR : w_at l r i j p = l.getD k 0 := by
          unfold w_at
          rw [if_pos (show p < i by omega), e1]
        rw [hR, if_neg (show ¬ k = i by omega), if_neg (show ¬ k = j by omega), if_pos (show k < l.length by omega), show p - w.length = 0 by omega]
        rfl
      · rw [if_neg (show ¬ i < k by omega), if_neg (show ¬ j < k by omega)] at n0
        rw [if_pos (show i < k + 1 by omega)] at hp
        rw [if_pos h1]
        by_cases hp0 : p = k
        · have hR : w_at l r i j p = nI r := by
            unfold w_at
            rw [if_neg (show ¬ p < i by omega), if_pos (show p = i by omega)]
          rw [hR, show p - w.length = 0 by omega]
          rfl
        · by_cases h2 : k = j
          · rw [if_pos (show j < k + 1 by omega)] at hp
            rw [if_pos h2]
            by_cases hp1 : p = k + 1
            · have hR : w_at l r i j p = nI (100 + r) := by
                unfold w_at
                rw [if_neg (show ¬ p < i by omega), if_neg (show ¬ p = i by omega), if_neg (show ¬ p ≤ j by omega), if_pos (show p = j + 1 by omega)]
              rw [hR, show p - w.length = 1 by omega]
              rfl
            · by_cases h3 : k + 1 ≤ l.length
              · rw [if_pos h3] at hp
                have hR : w_at l r i j p = l.getD k 0 := by
                  unfold w_at
                  rw [if_neg (show ¬ p < i by omega), if_neg (show ¬ p = i by omega), if_neg (show ¬ p ≤ j by omega), if_neg (show ¬ p = j + 1 by omega), show p - 2 = k by omega]
                rw [hR, if_pos (show k < l.length by omega), show p - w.length = 2 by omega]
                rfl
              · rw [if_neg h3] at hp
                omega
          · rw [if_neg (show ¬ j < k + 1 by omega), if_pos (show k + 1 ≤ l.length by omega)] at hp
            have hR : w_at l r i j p = l.getD k 0 := by
              unfold w_at
              rw [if_neg (show ¬ p < i by omega), if_neg (show ¬ p = i by omega), if_pos (show p ≤ j by omega), show p - 1 = k by omega]
            rw [hR, if_neg h2, if_pos (show k < l.length by omega), show p - w.length = 1 by omega]
            rfl
      · rw [if_pos (show i < k by omega)] at n0
        rw [if_pos (show i < k + 1 by omega)] at hp
        rw [if_neg (show ¬ k = i by omega)]
        rcases Nat.lt_trichotomy k j with h2 | h2 | h2
        · rw [if_neg (show ¬ j < k by omega)] at n0
          rw [if_neg (show ¬ j < k + 1 by omega), if_pos (show k + 1 ≤ l.length by omega)] at hp
          have hR : w_at l r i j p = l.getD k 0 := by
            unfold w_at
            rw [if_neg (show ¬ p < i by omega), if_neg (show ¬ p = i by omega), if_pos (show p ≤ j by omega), show p - 1 = k by omega]
          rw [hR, if_neg (show ¬ k = j by omega), if_pos (show k < l.length by omega), show p - w.length = 0 by omega]
          rfl
        · rw [if_neg (show ¬ j < k by omega)] at n0
          rw [if_pos (show j < k + 1 by omega)] at hp
          rw [if_pos h2]
          by_cases hp1 : p = k + 1
          · have hR : w_at l r i j p = nI (100 + r) := by
              unfold w_at
              rw [if_neg (show ¬ p < i by omega), if_neg (show ¬ p = i by omega), if_neg (show ¬ p ≤ j by omega), if_pos (show p = j + 1 by omega)]
            rw [hR, show p - w.length = 0 by omega]
            rfl
          · by_cases h3 : k + 1 ≤ l.length
            · rw [if_pos h3] at hp
              have hR : w_at l r i j p = l.getD k 0 := by
                unfold w_at
                rw [if_neg (show ¬ p < i by omega), if_neg (show ¬ p = i by omega), if_neg (show ¬ p ≤ j by omega), if_neg (show ¬ p = j + 1 by omega), show p - 2 = k by omega]
              rw [hR, if_pos (show k < l.length by omega), show p - w.length = 1 by omega]
              rfl
            · rw [if_neg h3] at hp
              omega
        · rw [if_pos (show j < k by omega)] at n0
          rw [if_pos (show j < k + 1 by omega)] at hp
          by_cases h3 : k + 1 ≤ l.length
          · rw [if_pos h3] at hp
            have hR : w_at l r i j p = l.getD k 0 := by
              unfold w_at
              rw [if_neg (show ¬ p < i by omega), if_neg (show ¬ p = i by omega), if_neg (show ¬ p ≤ j by omega), if_neg (show ¬ p = j + 1 by omega), show p - 2 = k by omega]
            rw [hR, if_neg (show ¬ k = j by omega), if_pos (show k < l.length by omega), show p - w.length = 0 by omega]
            rfl
          · rw [if_neg h3] at hp
            omega
theorem w_ins_len (l : List Int32) (r i j : Nat) (hij : i ≤ j) (hj : j ≤ l.length) : (w_ins l r i j).length = l.length + 2 := by
  unfold w_ins
  rw [w_lay_n l r i j _ (Nat.le_refl _), if_neg (show ¬ l.length + 1 ≤ l.length by omega), if_pos (show i < l.length + 1 by omega), if_pos (show j < l.length + 1 by omega)]
theorem w_ins_at (l : List Int32) (r i j : Nat) (hij : i ≤ j) (hj : j ≤ l.length) {p : Nat} (hp : p < l.length + 2) : (w_ins l r i j).getD p 0 = w_at l r i j p :=
  w_lay_at l r i j hij hj _ (Nat.le_refl _) p (by have := w_ins_len l r i j hij hj; unfold w_ins at this; omega)
theorem q4_pick {g : Nat → Int32} {r : Nat} (hr : r < 20) : q4 g (nI r) = (nI r, gr g r 0, gr g r 1, gr g r 4) := by
  have h1 : nI r < 100 := by
    have := (nI_ltI (a := r) (b := 100) (by omega) (by omega)).mpr (by omega)
    exact this
  have h2 : c_num (nI r) = r := by
    unfold c_num
    rw [if_pos h1]
    exact i_nat_nI (by omega)
  unfold q4 w_sx w_sy
  rw [if_pos h1, if_pos h1, if_pos h1, h2]
theorem q4_drop {g : Nat → Int32} {r : Nat} (hr : r < 20) : q4 g (nI (100 + r)) = (nI (100 + r), gr g r 2, gr g r 3, gr g r 5) := by
  have h1 : ¬ nI (100 + r) < 100 := by
    intro z
    have := (nI_ltI (a := 100 + r) (b := 100) (by omega) (by omega)).mp z
    omega
  have h2 : c_num (nI (100 + r)) = r := by
    have e : nI (100 + r) - 100 = nI r := by
      have := pk_sub (a := 100 + r) (b := 100) (by omega)
      rw [show 100 + r - 100 = r by omega] at this
      exact this
    unfold c_num
    rw [if_neg h1, e]
    exact i_nat_nI (by omega)
  unfold q4 w_sx w_sy
  rw [if_neg h1, if_neg h1, if_neg h1, h2]
theorem RtX.ins {g : Nat → Int32} {d : Nat} {R : RS} {l : List Int32} (h : RtX g d R l) {r i j : Nat} (hr : r < 20) {X : RdS} (x0 : gr g r 0 = qfx X) (x1 : gr g r 1 = qfy X) (x2 : gr g r 2 = qtx X) (x3 : gr g r 3 = qty X) (x4 : gr g r 4 = qrd X) (x5 : gr g r 5 = qdl X) (hij : i ≤ j) (hj : j ≤ l.length) : RtX g d (r_ins R (nI r) X i j) (w_ins l r i j) := by
  have hl := w_ins_len l r i j hij hj
  refine RtX.mk4 (t0 := rt R 0) (t1 := rt R (l.length + 1)) ?_ ?_ ?_ fun p hp => ?_
  · rw [hl]
    show rn R + 2 = _
    rw [h.1]
  · rw [st4_ins, if_pos (Nat.zero_le _)]
    exact h.e0
  · rw [hl, st4_ins, if_neg (show ¬ l.length + 2 + 1 ≤ i by omega), if_neg (show ¬ l.length + 2 + 1 = i + 1 by omega), if_neg (show ¬ l.length + 2 + 1 ≤ j + 1 by omega), if_neg (show ¬ l.length + 2 + 1 = j + 2 by omega)]
    exact h.e1
  · rw [hl] at hp
    rw [w_ins_at l r i j hij hj hp, st4_ins]
    unfold w_at
    by_cases c1 : p < i
    · rw [if_pos (show p + 1 ≤ i by omega), if_pos c1]
      exact h.s4 (by omega)
    · rw [if_neg (show ¬ p + 1 ≤ i by omega), if_neg c1]
      by_cases c2 : p = i
      · rw [if_pos (show p + 1 = i + 1 by omega), if_pos c2, q4_pick hr, x0, x1, x4]
      · rw [if_neg (show ¬ p + 1 = i + 1 by omega), if_neg c2]
        by_cases c3 : p ≤ j
        · rw [if_pos (show p + 1 ≤ j + 1 by omega), if_pos c3]
          have := h.s4 (i := p - 1) (by omega)
          rw [show p - 1 + 1 = p by omega] at this
          rw [show p + 1 - 1 = p by omega]
          exact this
        · rw [if_neg (show ¬ p + 1 ≤ j + 1 by omega), if_neg c3]
          by_cases c4 : p = j + 1
          · rw [if_pos (show p + 1 = j + 2 by omega), if_pos c4, q4_drop hr, x2, x3, x5, show (100 : Int32) + nI r = nI (100 + r) from nI_add 100 r]
          · rw [if_neg (show ¬ p + 1 = j + 2 by omega), if_neg c4]
            have := h.s4 (i := p - 2) (by omega)
            rw [show p - 2 + 1 = p + 1 - 2 by omega] at this
            exact this
