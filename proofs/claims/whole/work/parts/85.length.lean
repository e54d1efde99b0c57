theorem k_abs_s (x u : Int32) : k_abs x u = k_abs u x := by
  unfold k_abs
  by_cases h : u ≤ x
  · rw [if_pos h]
    by_cases h2 : x ≤ u
    · have e : u = x := Int32.toInt_inj.mp (by
        have a1 := Int32.le_iff_toInt_le.mp h
        have a2 := Int32.le_iff_toInt_le.mp h2
        omega)
      rw [if_pos h2, e]
    · rw [if_neg h2]
  · have h2 : x ≤ u := by
      have a1 := Int32.lt_iff_toInt_lt.mp (Int32.not_le.mp h)
      rw [Int32.le_iff_toInt_le]
      omega
    rw [if_neg h, if_pos h2]
theorem k_dist_s (x y u v : Int32) : k_dist x y u v = k_dist u v x y := by
  unfold k_dist
  rw [k_abs_s x u, k_abs_s y v]
def dpt (a b : Int32 × Int32) : Int32 := k_dist a.1 a.2 b.1 b.2
theorem dpt_s (a b : Int32 × Int32) : dpt a b = dpt b a := k_dist_s _ _ _ _
theorem r_step_pt (R : RS) (i j : Nat) : r_step R i j = dpt (pt R i) (pt R j) := rfl
theorem pt_ins (R : RS) (num : Int32) (X : RdS) (i j k : Nat) : pt (r_ins R num X i j) k = if k ≤ i then pt R k else if k = i + 1 then (qfx X, qfy X) else if k ≤ j + 1 then pt R (k - 1) else if k = j + 2 then (qtx X, qty X) else pt R (k - 2) := by
  unfold pt r_ins rx ry
  dsimp only
  split
  · rfl
  · split
    · rfl
    · split
      · rfl
      · split <;> rfl
theorem pt_a {R : RS} {num : Int32} {X : RdS} {i j k : Nat} (h : k ≤ i) : pt (r_ins R num X i j) k = pt R k := by rw [pt_ins, if_pos h]
theorem pt_p {R : RS} {num : Int32} {X : RdS} {i j : Nat} : pt (r_ins R num X i j) (i + 1) = (qfx X, qfy X) := by rw [pt_ins, if_neg (by omega), if_pos rfl]
theorem pt_b {R : RS} {num : Int32} {X : RdS} {i j k : Nat} (h : i + 1 ≤ k) (h2 : k ≤ j) : pt (r_ins R num X i j) (k + 1) = pt R k := by rw [pt_ins, if_neg (by omega), if_neg (by omega), if_pos (by omega), show k + 1 - 1 = k by omega]
theorem pt_q {R : RS} {num : Int32} {X : RdS} {i j : Nat} (h : i ≤ j) : pt (r_ins R num X i j) (j + 2) = (qtx X, qty X) := by rw [pt_ins, if_neg (by omega), if_neg (by omega), if_neg (by omega), if_pos rfl]
theorem pt_c {R : RS} {num : Int32} {X : RdS} {i j k : Nat} (h : i ≤ j) (h2 : j + 1 ≤ k) : pt (r_ins R num X i j) (k + 2) = pt R k := by rw [pt_ins, if_neg (by omega), if_neg (by omega), if_neg (by omega), if_neg (by omega), show k + 2 - 2 = k by omega]
theorem lng_pt (R : RS) (X : RdS) (i j : Nat) : r_lng R X i j = if i = j then dpt (pt R i) (qfx X, qfy X) + dpt (qfx X, qfy X) (qtx X, qty X) + dpt (pt R (j + 1)) (qtx X, qty X) - dpt (pt R i) (pt R (i + 1)) else dpt (pt R i) (qfx X, qfy X) + dpt (pt R (i + 1)) (qfx X, qfy X) - dpt (pt R i) (pt R (i + 1)) + dpt (pt R j) (qtx X, qty X) + dpt (pt R (j + 1)) (qtx X, qty X) - dpt (pt R j) (pt R (j + 1)) := rfl
theorem lenTo_s (R : RS) (k : Nat) : r_lenTo R (k + 1) = r_lenTo R k + dpt (pt R k) (pt R (k + 1)) := rfl
theorem ins_len1 (R : RS) (num : Int32) (X : RdS) (i j : Nat) : ∀ k, k ≤ i → r_lenTo (r_ins R num X i j) k = r_lenTo R k
  | 0, _ => rfl
  | k + 1, h => by
    rw [lenTo_s, lenTo_s, ins_len1 R num X i j k (by omega), pt_ins, pt_ins, if_pos (show k ≤ i by omega), if_pos (show k + 1 ≤ i by omega)]
/-- i < j: between pickup and drop -/
theorem ins_len2 (R : RS) (num : Int32) (X : RdS) (i j : Nat) (hij : i < j) : ∀ k, i + 1 + k ≤ j → r_lenTo (r_ins R num X i j) (i + 1 + k + 1) = r_lenTo R (i + 1 + k) + (dpt (pt R i) (qfx X, qfy X) + dpt (pt R (i + 1)) (qfx X, qfy X) - dpt (pt R i) (pt R (i + 1)))
  | 0, _ => by
    show r_lenTo (r_ins R num X i j) (i + 1 + 1) = r_lenTo R (i + 1) + _
    rw [lenTo_s, lenTo_s, lenTo_s, ins_len1 R num X i j i (Nat.le_refl _)]
    rw [pt_a (k := i) (Nat.le_refl _), pt_p, pt_b (k := i + 1) (by omega) (by omega), dpt_s (qfx X, qfy X) (pt R (i + 1))]
    grind
  | k + 1, h => by
    have ih := ins_len2 R num X i j hij k (by omega)
    show r_lenTo (r_ins R num X i j) (i + 1 + k + 1 + 1) = r_lenTo R (i + 1 + k + 1) + _
    rw [lenTo_s, ih, lenTo_s]
    rw [pt_b (k := i + 1 + k) (by omega) (by omega), pt_b (k := i + 1 + k + 1) (by omega) (by omega)]
    grind
theorem ins_len3 (R : RS) (num : Int32) (X : RdS) (i j : Nat) (hij : i ≤ j) : ∀ k, r_lenTo (r_ins R num X i j) (j + 1 + k + 2) = r_lenTo R (j + 1 + k) + r_lng R X i j
  | 0 => by
    show r_lenTo (r_ins R num X i j) (j + 1 + 1 + 1) = r_lenTo R (j + 1) + _
    rw [lng_pt]
    by_cases e : i = j
    · subst e
      rw [if_pos rfl, lenTo_s, lenTo_s, lenTo_s, lenTo_s, ins_len1 R num X i i i (Nat.le_refl _)]
      rw [pt_a (k := i) (Nat.le_refl _), pt_p, show i + 1 + 1 = i + 2 from rfl, pt_q (Nat.le_refl _), show i + 2 + 1 = i + 1 + 2 from rfl, pt_c (k := i + 1) (Nat.le_refl _) (Nat.le_refl _), dpt_s (qtx X, qty X) (pt R (i + 1))]
      grind
    · rw [if_neg e]
      have q := ins_len2 R num X i j (by omega) (j - i - 1) (by omega)
      rw [show i + 1 + (j - i - 1) = j by omega] at q
      rw [lenTo_s, lenTo_s, q, lenTo_s]
      rw [pt_b (k := j) (by omega) (by omega), show j + 1 + 1 = j + 2 from rfl, pt_q (by omega), show j + 2 + 1 = j + 1 + 2 from rfl, pt_c (k := j + 1) (by omega) (by omega), dpt_s (qtx X, qty X) (pt R (j + 1))]
      grind
  | k + 1 => by
    have ih := ins_len3 R num X i j hij k
    show r_lenTo (r_ins R num X i j) (j + 1 + k + 2 + 1) = r_lenTo R (j + 1 + k + 1) + _
    rw [lenTo_s, ih, lenTo_s]
    rw [pt_c (k := j + 1 + k) (by omega) (by omega), show j + 1 + k + 2 + 1 = j + 1 + k + 1 + 2 from rfl, pt_c (k := j + 1 + k + 1) (by omega) (by omega)]
    grind
theorem ins_len (R : RS) (num : Int32) (X : RdS) (i j : Nat) (hij : i ≤ j) (hj : j + 2 ≤ rn R) : r_len (r_ins R num X i j) = r_len R + r_lng R X i j := by
  have q := ins_len3 R num X i j hij (rn R - 2 - j)
  unfold r_len
  rw [show rn (r_ins R num X i j) - 1 = j + 1 + (rn R - 2 - j) + 2 by show rn R + 2 - 1 = _; omega, q, show j + 1 + (rn R - 2 - j) = rn R - 1 by omega]
