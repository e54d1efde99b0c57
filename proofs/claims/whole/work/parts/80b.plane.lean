/-- a place of the plane -/
def PIn (p : Int32 × Int32) : Prop := 0 ≤ p.1.toInt ∧ p.1.toInt ≤ 99 ∧ 0 ≤ p.2.toInt ∧ p.2.toInt ≤ 99
theorem k_abs_e {x u : Int32} (h1 : 0 ≤ x.toInt) (h2 : x.toInt ≤ 99) (h3 : 0 ≤ u.toInt) (h4 : u.toInt ≤ 99) : k_abs x u = i_abs (x - u) := by
  have e : (x - u).toInt = x.toInt - u.toInt := by
    rw [Int32.toInt_sub]
    exact Int.bmod_eq_of_le_mul_two (by omega) (by omega)
  have e0 : (0 : Int32).toInt = 0 := rfl
  unfold k_abs i_abs
  by_cases h : u ≤ x
  · have h9 : (0 : Int32) ≤ x - u := by
      rw [Int32.le_iff_toInt_le] at h ⊢
      rw [e, e0]
      omega
    rw [if_pos h, if_pos h9]
  · have h9 : ¬ (0 : Int32) ≤ x - u := by
      rw [Int32.le_iff_toInt_le] at h ⊢
      rw [e, e0]
      omega
    rw [if_neg h, if_neg h9]
    grind
theorem k_i {x y u v : Int32} (a : PIn (x, y)) (b : PIn (u, v)) : k_dist x y u v = i_dist x y u v := by
  obtain ⟨a1, a2, a3, a4⟩ := a
  obtain ⟨b1, b2, b3, b4⟩ := b
  unfold k_dist i_dist
  rw [k_abs_e a1 a2 b1 b2, k_abs_e a3 a4 b3 b4]
def pt (R : RS) (k : Nat) : Int32 × Int32 := (rx R k, ry R k)
/-- all places of a route lie in the plane -/
def RIn (R : RS) : Prop := ∀ k, k < rn R → PIn (pt R k)
theorem RIn.k {R : RS} (h : RIn R) {i j : Nat} (hi : i < rn R) (hj : j < rn R) : r_step R i j = i_dist (rx R i) (ry R i) (rx R j) (ry R j) := k_i (h i hi) (h j hj)
