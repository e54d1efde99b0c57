/-- THE ROUTE: the class's rows R are the reference's list l, with the driver's ends -/
def RtX (g : Nat → Int32) (d : Nat) (R : RS) (l : List Int32) : Prop := rn R = l.length + 2 ∧ (rx R 0 = gd g d 0 ∧ ry R 0 = gd g d 1) ∧ (rx R (l.length + 1) = gd g d 2 ∧ ry R (l.length + 1) = gd g d 3) ∧ rc R 0 = -1 ∧ rc R (l.length + 1) = -1 ∧
  ∀ i, i < l.length → rc R (i + 1) = l.getD i 0 ∧ rx R (i + 1) = w_sx g (l.getD i 0) ∧ ry R (i + 1) = w_sy g (l.getD i 0) ∧ rt R (i + 1) = if l.getD i 0 < 100 then gr g (c_num (l.getD i 0)) 4 else gr g (c_num (l.getD i 0)) 5
theorem tk_s (l : List Int32) {k : Nat} (h : k < l.length) : l.take (k + 1) = l.take k ++ [l.getD k 0] := by
  rw [List.take_succ, List.getD_eq_getElem?_getD, List.getElem?_eq_getElem h]
  rfl
theorem sc_pick {c : Int32} (h : SCode c) : (decide (0 ≤ c) && decide (c < 100)) = decide (c < 100) := by
  by_cases q : c < 100
  · obtain ⟨h1, h2⟩ := h.lt q
    have h0 : (0 : Int32) ≤ c := by
      rw [h2]
      exact (nI_leI (a := 0) (b := c_num c) (by omega) (by omega)).mpr (Nat.zero_le _)
    simp [h0]
  · simp [q]
theorem lv_no {R : RS} {j : Nat} {w : Int32} (h : r_pick R j = false) : r_lv R j w = w := by
  unfold r_lv
  rw [h]
  rfl
theorem pick_m1 {R : RS} {j : Nat} (h : rc R j = -1) : r_pick R j = false := by
  unfold r_pick
  rw [h]
  decide
theorem RtX.pick {g : Nat → Int32} {d : Nat} {R : RS} {l : List Int32} (h : RtX g d R l) (hc : ∀ c, c ∈ l → SCode c) {i : Nat} (hi : i < l.length) : r_pick R (i + 1) = decide (l.getD i 0 < 100) := by
  unfold r_pick
  rw [(h.2.2.2.2.2 i hi).1]
  refine sc_pick (hc _ ?_)
  rw [List.getD_eq_getElem?_getD, List.getElem?_eq_getElem hi]
  exact List.getElem_mem hi
/-- the reference's walk of the first k stops stands at the class's place k -/
theorem RtX.way {g : Nat → Int32} {d : Nat} {R : RS} {l : List Int32} (h : RtX g d R l) (hR : RIn R) {k : Nat} (hk : k < l.length) {s : WS} (a : s.1 = rx R k) (b : s.2.1 = ry R k) : w_way g s (l.getD k 0) = r_step R k (k + 1) := by
  obtain ⟨-, q2, q3, -⟩ := h.2.2.2.2.2 k hk
  rw [hR.k (i := k) (j := k + 1) (by rw [h.1]; omega) (by rw [h.1]; omega)]
  unfold w_way
  rw [a, b, q2, q3]
theorem RtX.run {g : Nat → Int32} {d : Nat} {R : RS} {l : List Int32} (h : RtX g d R l) (hR : RIn R) (hc : ∀ c, c ∈ l → SCode c) : ∀ k, k ≤ l.length →
    (w_run g d (l.take k)).1 = rx R k ∧ (w_run g d (l.take k)).2.1 = ry R k ∧ (w_run g d (l.take k)).2.2.1 = r_lv R k (r_arr R (gd g d 5) k) ∧ (w_run g d (l.take k)).2.2.2.2.1 = r_lenTo R k
  | 0, _ => by
    refine ⟨h.2.1.1.symm, h.2.1.2.symm, ?_, rfl⟩
    rw [lv_no (pick_m1 h.2.2.2.1)]
    rfl
  | k + 1, hk => by
    obtain ⟨a, b, c, e⟩ := RtX.run h hR hc k (by omega)
    obtain ⟨q1, q2, q3, q4⟩ := h.2.2.2.2.2 k (by omega)
    have hp := h.pick hc (i := k) (by omega)
    have hw : w_way g (w_run g d (l.take k)) (l.getD k 0) = r_step R k (k + 1) := h.way hR (by omega) a b
    rw [tk_s l (by omega), w_run_s]
    generalize w_run g d (l.take k) = s at a b c e hw ⊢
    unfold w_go
    by_cases q : l.getD k 0 < 100
    · rw [if_pos q]
      refine ⟨q2.symm, q3.symm, ?_, ?_⟩
      · show i_max (s.2.2.1 + w_way g s (l.getD k 0)) (gr g (c_num (l.getD k 0)) 4) = r_lv R (k + 1) (r_arr R (gd g d 5) (k + 1))
        unfold r_lv
        rw [hp, hw, c, q4, if_pos q, decide_eq_true q]
        rfl
      · show s.2.2.2.2.1 + w_way g s (l.getD k 0) = r_lenTo R k + r_step R k (k + 1)
        rw [hw, e]
    · rw [if_neg q]
      refine ⟨q2.symm, q3.symm, ?_, ?_⟩
      · show s.2.2.1 + w_way g s (l.getD k 0) = r_lv R (k + 1) (r_arr R (gd g d 5) (k + 1))
        rw [lv_no (by rw [hp]; exact decide_eq_false q), hw, c]
        rfl
      · show s.2.2.2.2.1 + w_way g s (l.getD k 0) = r_lenTo R k + r_step R k (k + 1)
        rw [hw, e]
theorem RtX.all {g : Nat → Int32} {d : Nat} {R : RS} {l : List Int32} (h : RtX g d R l) (hR : RIn R) (hc : ∀ c, c ∈ l → SCode c) : (w_run g d l).1 = rx R l.length ∧ (w_run g d l).2.1 = ry R l.length ∧ (w_run g d l).2.2.1 = r_lv R l.length (r_arr R (gd g d 5) l.length) ∧ (w_run g d l).2.2.2.2.1 = r_lenTo R l.length := by
  have q := h.run hR hc l.length (Nat.le_refl _)
  rw [List.take_length] at q
  exact q
theorem RtX.end {g : Nat → Int32} {d : Nat} {R : RS} {l : List Int32} (h : RtX g d R l) (hR : RIn R) (hc : ∀ c, c ∈ l → SCode c) : w_end g d (w_run g d l) = r_step R l.length (l.length + 1) := by
  obtain ⟨a, b, -, -⟩ := h.all hR hc
  rw [hR.k (i := l.length) (j := l.length + 1) (by rw [h.1]; omega) (by rw [h.1]; omega)]
  unfold w_end
  rw [a, b, h.2.2.1.1, h.2.2.1.2]
theorem RtX.len {g : Nat → Int32} {d : Nat} {R : RS} {l : List Int32} (h : RtX g d R l) (hR : RIn R) (hc : ∀ c, c ∈ l → SCode c) : w_len g d l = r_len R := by
  unfold w_len r_len
  rw [h.end hR hc, (h.all hR hc).2.2.2, h.1]
  rfl
theorem RtX.dir {g : Nat → Int32} {d : Nat} {R : RS} {l : List Int32} (h : RtX g d R l) (hR : RIn R) : w_dir g d = r_dir R := by
  unfold w_dir r_dir
  rw [hR.k (i := 0) (j := rn R - 1) (by rw [h.1]; omega) (by rw [h.1]; omega), h.1]
  show _ = i_dist (rx R 0) (ry R 0) (rx R (l.length + 1)) (ry R (l.length + 1))
  rw [h.2.1.1, h.2.1.2, h.2.2.1.1, h.2.2.1.2]
theorem RtX.arr {g : Nat → Int32} {d : Nat} {R : RS} {l : List Int32} (h : RtX g d R l) (hR : RIn R) (hc : ∀ c, c ∈ l → SCode c) {j : Nat} (hj : j < rn R) : w_arr g d l j = r_arr R (gd g d 5) j := by
  rw [h.1] at hj
  unfold w_arr
  match j, hj with
  | 0, _ => rw [if_pos rfl]; rfl
  | j + 1, hj =>
    rw [if_neg (by omega)]
    by_cases e : j + 1 = l.length + 1
    · rw [if_pos e, h.end hR hc, (h.all hR hc).2.2.1]
      have e2 : j = l.length := by omega
      subst e2
      rfl
    · rw [if_neg e]
      obtain ⟨a, b, c, -⟩ := h.run hR hc j (by omega)
      obtain ⟨q1, q2, q3, q4⟩ := h.2.2.2.2.2 j (by omega)
      show (w_run g d (l.take j)).2.2.1 + w_way g (w_run g d (l.take j)) (l.getD j 0) = r_lv R j (r_arr R (gd g d 5) j) + r_step R j (j + 1)
      have hw : w_way g (w_run g d (l.take j)) (l.getD j 0) = r_step R j (j + 1) := h.way hR (by omega) a b
      rw [hw, c]
