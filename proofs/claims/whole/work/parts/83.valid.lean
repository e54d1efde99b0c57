theorem w_go_f {g : Nat → Int32} {d : Nat} {s : WS} {c : Int32} (h : s.2.2.2.2.2 = false) : (w_go g d s c).2.2.2.2.2 = false := by
  unfold w_go
  split
  · show (s.2.2.2.2.2 && _) = false
    rw [h]; rfl
  · show (s.2.2.2.2.2 && _) = false
    rw [h]; rfl
theorem w_fold_f {g : Nat → Int32} {d : Nat} : ∀ (l : List Int32) (s : WS), s.2.2.2.2.2 = false → (l.foldl (w_go g d) s).2.2.2.2.2 = false
  | [], _, h => h
  | c :: l, s, h => w_fold_f l (w_go g d s c) (w_go_f h)
theorem w_run_f {g : Nat → Int32} {d : Nat} {l : List Int32} {k : Nat} (h : (w_run g d (l.take k)).2.2.2.2.2 = false) : (w_run g d l).2.2.2.2.2 = false := by
  have e : l = l.take k ++ l.drop k := (List.take_append_drop k l).symm
  unfold w_run at h ⊢
  rw [e, List.foldl_append]
  exact w_fold_f _ _ h
theorem i_pm {x : Int32} {n : Nat} (hn : n < 1000) (h1 : -(n : Int) ≤ x.toInt) (h2 : x.toInt ≤ n) : (x + 1).toInt = x.toInt + 1 ∧ (x + -1).toInt = x.toInt - 1 := by
  have e1 : (1 : Int32).toInt = 1 := rfl
  have e2 : (-1 : Int32).toInt = -1 := rfl
  constructor
  · rw [Int32.toInt_add, e1]
    exact Int.bmod_eq_of_le_mul_two (by omega) (by omega)
  · rw [Int32.toInt_add, e2]
    have := Int.bmod_eq_of_le_mul_two (x := x.toInt + -1) (y := 2 ^ 32) (by omega) (by omega)
    rw [this]
    omega
/-- how many sit in the car: between -k and k after k stops -/
theorem w_ic (g : Nat → Int32) (d : Nat) (l : List Int32) (hl : l.length ≤ 900) : ∀ k, k ≤ l.length → -(k : Int) ≤ (w_run g d (l.take k)).2.2.2.1.toInt ∧ (w_run g d (l.take k)).2.2.2.1.toInt ≤ k
  | 0, _ => by
    show -((0 : Nat) : Int) ≤ (0 : Int32).toInt ∧ (0 : Int32).toInt ≤ ((0 : Nat) : Int)
    decide
  | k + 1, hk => by
    obtain ⟨h1, h2⟩ := w_ic g d l hl k (by omega)
    rw [tk_s l (by omega), w_run_s]
    generalize w_run g d (l.take k) = s at h1 h2 ⊢
    obtain ⟨p1, p2⟩ := i_pm (n := k) (by omega) h1 h2
    unfold w_go
    split
    · show _ ≤ (s.2.2.2.1 + 1).toInt ∧ (s.2.2.2.1 + 1).toInt ≤ _
      rw [p1]
      omega
    · show _ ≤ (s.2.2.2.1 + -1).toInt ∧ (s.2.2.2.1 + -1).toInt ≤ _
      rw [p2]
      omega
theorem sc_drop {c : Int32} (h : SCode c) (q : ¬ c < 100) : decide (100 ≤ c) = true := decide_eq_true (Int32.not_lt.mp q)
theorem RtX.keep {g : Nat → Int32} {d : Nat} {R : RS} {l : List Int32} (h : RtX g d R l) (hR : RIn R) (hc : ∀ c, c ∈ l → SCode c) (hl : l.length ≤ 900) :
    ∀ f k, k ≤ l.length → k + f = l.length + 1 → (w_run g d (l.take k)).2.2.2.1 ≤ gd g d 4 → (w_run g d l).2.2.2.2.2 = ((w_run g d (l.take k)).2.2.2.2.2 && r_keep R (gd g d 4) f k (r_arr R (gd g d 5) k) (w_run g d (l.take k)).2.2.2.1)
  | 0, k, h1, h2, _ => by omega
  | f + 1, k, h1, h2, h3 => by
    rcases Nat.lt_or_ge k l.length with hk | hk
    · obtain ⟨a, b, c, e⟩ := h.run hR hc k h1
      obtain ⟨q1, q2, q3, q4⟩ := h.2.2.2.2.2 k hk
      have hp := h.pick hc hk
      have hm : l.getD k 0 ∈ l := by
        rw [List.getD_eq_getElem?_getD, List.getElem?_eq_getElem hk]
        exact List.getElem_mem hk
      have hw : w_way g (w_run g d (l.take k)) (l.getD k 0) = r_step R k (k + 1) := h.way hR hk a b
      obtain ⟨i1, i2⟩ := w_ic g d l hl k h1
      obtain ⟨p1, p2⟩ := i_pm (n := k) (by omega) i1 i2
      have ih := RtX.keep h hR hc hl f (k + 1) hk (by omega)
      have hmono : (w_run g d (l.take (k + 1))).2.2.2.2.2 = false → (w_run g d l).2.2.2.2.2 = false := w_run_f
      rw [tk_s l hk, w_run_s] at ih hmono
      unfold r_keep
      rw [hp]
      have har : r_lv R k (r_arr R (gd g d 5) k) + r_step R k (k + 1) = r_arr R (gd g d 5) (k + 1) := rfl
      rw [har]
      generalize w_run g d (l.take k) = s at *
      by_cases q : l.getD k 0 < 100
      · rw [decide_eq_true q, if_pos rfl]
        have hgo : w_go g d s (l.getD k 0) = (w_sx g (l.getD k 0), w_sy g (l.getD k 0), i_max (s.2.2.1 + w_way g s (l.getD k 0)) (gr g (c_num (l.getD k 0)) 4), s.2.2.2.1 + 1, s.2.2.2.2.1 + w_way g s (l.getD k 0), s.2.2.2.2.2 && decide (s.2.2.2.1 + 1 ≤ gd g d 4)) := by
          unfold w_go
          rw [if_pos q]
        rw [hgo] at ih hmono
        by_cases hs : gd g d 4 < s.2.2.2.1 + 1
        · rw [if_pos hs, Bool.and_false]
          refine hmono ?_
          show (s.2.2.2.2.2 && decide (s.2.2.2.1 + 1 ≤ gd g d 4)) = false
          rw [decide_eq_false (Int32.not_le.mpr hs), Bool.and_false]
        · rw [if_neg hs]
          have hs := Int32.not_lt.mp hs
          have := ih hs
          rw [this]
          show ((s.2.2.2.2.2 && decide (s.2.2.2.1 + 1 ≤ gd g d 4)) && _) = _
          rw [decide_eq_true hs, Bool.and_true]
      · rw [decide_eq_false q, if_neg (by decide)]
        have hd : r_drop R (k + 1) = true := by
          unfold r_drop
          rw [q1]
          exact sc_drop (hc _ hm) q
        rw [hd, if_pos rfl]
        have hgo : w_go g d s (l.getD k 0) = (w_sx g (l.getD k 0), w_sy g (l.getD k 0), s.2.2.1 + w_way g s (l.getD k 0), s.2.2.2.1 + -1, s.2.2.2.2.1 + w_way g s (l.getD k 0), s.2.2.2.2.2 && decide (s.2.2.1 + w_way g s (l.getD k 0) ≤ gr g (c_num (l.getD k 0)) 5)) := by
          unfold w_go
          rw [if_neg q]
        rw [hgo] at ih hmono
        rw [if_neg q] at q4
        have ht : s.2.2.1 + w_way g s (l.getD k 0) = r_arr R (gd g d 5) (k + 1) := by
          rw [hw, c]
          exact har
        rw [ht, ← q4] at ih hmono
        by_cases hs : rt R (k + 1) < r_arr R (gd g d 5) (k + 1)
        · rw [if_pos hs, Bool.and_false]
          refine hmono ?_
          show (s.2.2.2.2.2 && decide (r_arr R (gd g d 5) (k + 1) ≤ rt R (k + 1))) = false
          rw [decide_eq_false (Int32.not_le.mpr hs), Bool.and_false]
        · rw [if_neg hs]
          have hs := Int32.not_lt.mp hs
          have hle : s.2.2.2.1 + -1 ≤ gd g d 4 := by
            have := Int32.le_iff_toInt_le.mp h3
            apply Int32.le_iff_toInt_le.mpr
            rw [p2]
            omega
          rw [if_neg (Int32.not_lt.mpr hle)]
          have := ih hle
          rw [this]
          show ((s.2.2.2.2.2 && decide (r_arr R (gd g d 5) (k + 1) ≤ rt R (k + 1))) && _) = _
          rw [decide_eq_true hs, Bool.and_true]
    · have e : k = l.length := by omega
      subst e
      have ef : f = 0 := by omega
      subst ef
      have hdr : r_drop R (l.length + 1) = false := by
        unfold r_drop
        rw [h.2.2.2.2.1]
        decide
      unfold r_keep
      rw [List.take_length] at h3 ⊢
      rw [pick_m1 h.2.2.2.2.1, hdr, if_neg (by decide), if_neg (by decide), if_neg (Int32.not_lt.mpr h3)]
      unfold r_keep
      rw [Bool.and_true]
/-- validity -/
theorem RtX.ok {g : Nat → Int32} {d : Nat} {R : RS} {l : List Int32} (h : RtX g d R l) (hR : RIn R) (hc : ∀ c, c ∈ l → SCode c) (hl : l.length ≤ 900) (hse : 0 ≤ gd g d 4) : (w_run g d l).2.2.2.2.2 = r_ok R (gd g d 4) (gd g d 5) := by
  have q := h.keep hR hc hl (l.length + 1) 0 (Nat.zero_le _) (by omega) hse
  rw [q]
  unfold r_ok
  rw [h.1]
  show (true && _) = _
  rw [Bool.true_and]
  rfl
