theorem big9 : (1000000000 : Int32).toInt = 1000000000 := by decide +kernel
theorem sb_i {x y : Int32} (h1 : -100000 ≤ x.toInt) (h2 : x.toInt ≤ 100000) (h3 : -100000 ≤ y.toInt) (h4 : y.toInt ≤ 100000) : (x - y).toInt = x.toInt - y.toInt ∧ (x + y).toInt = x.toInt + y.toInt := by
  constructor
  · rw [Int32.toInt_sub]
    exact Int.bmod_eq_of_le_mul_two (by omega) (by omega)
  · rw [Int32.toInt_add]
    exact Int.bmod_eq_of_le_mul_two (by omega) (by omega)
/-- the two searches' states: by how much longer, and how long -/
def Sq (b : Int32) (s t : SS) : Prop := (s.1 = -1 ∧ t.1 = 1000000000) ∨ (0 ≤ s.1.toInt ∧ s.1.toInt ≤ 1000 ∧ t.1 = b + s.1 ∧ s.2 = t.2)
theorem Sq.lt {b v : Int32} {s t : SS} (q : Sq b s t) (b1 : 0 ≤ b.toInt) (b2 : b.toInt ≤ 19800) (v1 : 0 ≤ v.toInt) (v2 : v.toInt ≤ 1000) : (b + v < t.1) ↔ (s.1 = -1 ∨ v < s.1) := by
  have a2 := (sb_i (x := b) (y := v) (by omega) (by omega) (by omega) (by omega)).2
  rcases q with ⟨q1, q2⟩ | ⟨q1, q2, q3, -⟩
  · rw [q1, q2]
    have e9 := big9
    refine ⟨fun _ => Or.inl rfl, fun _ => ?_⟩
    rw [Int32.lt_iff_toInt_lt, a2, e9]
    omega
  · have a3 := (sb_i (x := b) (y := s.1) (by omega) (by omega) (by omega) (by omega)).2
    have hne : ¬ s.1 = -1 := by
      intro z
      rw [z] at q1
      exact absurd q1 (by decide)
    rw [q3, Int32.lt_iff_toInt_lt, Int32.lt_iff_toInt_lt, a2, a3]
    constructor
    · intro z
      exact Or.inr (by omega)
    · intro z
      have := z.resolve_left hne
      omega
theorem det_le {b v dr li : Int32} (b1 : 0 ≤ b.toInt) (b2 : b.toInt ≤ 19800) (v1 : 0 ≤ v.toInt) (v2 : v.toInt ≤ 1000) (d1 : 0 ≤ dr.toInt) (d2 : dr.toInt ≤ 198) (l1 : 0 ≤ li.toInt) (l2 : li.toInt ≤ 400) : (b + v - dr ≤ li) ↔ v ≤ li - (b - dr) := by
  have a1 := (sb_i (x := b) (y := dr) (by omega) (by omega) (by omega) (by omega)).1
  have a2 := (sb_i (x := b) (y := v) (by omega) (by omega) (by omega) (by omega)).2
  have a3 := (sb_i (x := b + v) (y := dr) (by omega) (by omega) (by omega) (by omega)).1
  have a4 := (sb_i (x := li) (y := b - dr) (by omega) (by omega) (by omega) (by omega)).1
  rw [Int32.le_iff_toInt_le, Int32.le_iff_toInt_le, a3, a4, a2, a1]
  omega
theorem dir_b {R : RS} (hR : RIn R) (h2 : 2 ≤ rn R) : 0 ≤ (r_dir R).toInt ∧ (r_dir R).toInt ≤ 198 := by
  have h := dpt_b (hR 0 (by omega)) (hR (rn R - 1) (by omega))
  unfold r_dir
  rw [r_step_pt]
  exact h
theorem Sq.go {b v x : Int32} {ok : Bool} {s t : SS} {i j : Nat} (q : Sq b s t) (v1 : 0 ≤ v.toInt) (v2 : v.toInt ≤ 1000) {A B : Prop} [Decidable A] [Decidable B] (hA : A ↔ v ≤ x) (hB : B ↔ (s.1 = -1 ∨ v < s.1)) : Sq b (if v ≤ x ∧ (s.1 = -1 ∨ v < s.1) ∧ ok = true then (v, i, j) else s) (if ((ok && decide A) && decide B) = true then (b + v, i, j) else t) := by
  by_cases c1 : v ≤ x
  · by_cases c2 : s.1 = -1 ∨ v < s.1
    · cases ok with
      | true =>
        rw [if_pos ⟨c1, c2, rfl⟩, decide_eq_true (hA.mpr c1), decide_eq_true (hB.mpr c2), if_pos (show (true && true && true) = true from rfl)]
        exact Or.inr ⟨v1, v2, rfl, rfl⟩
      | false =>
        rw [if_neg (fun z => absurd z.2.2 (by decide)), Bool.false_and, Bool.false_and, if_neg (by decide)]
        exact q
    · rw [if_neg (fun z => c2 z.2.1), decide_eq_false (fun z => c2 (hB.mp z)), Bool.and_false, if_neg (by decide)]
      exact q
  · rw [if_neg (fun z => c1 z.1), decide_eq_false (fun z => c1 (hA.mp z)), Bool.and_false, Bool.false_and, if_neg (by decide)]
    exact q
/-- what the search stands on -/
def SHyp (g : Nat → Int32) (d r : Nat) (R : RS) (l : List Int32) (X : RdS) (D : DS) : Prop := RtX g d R l ∧ (∀ c, c ∈ l → SCode c) ∧ l.length ≤ 100 - 10 ∧ r < 20 ∧ (gr g r 0 = qfx X ∧ gr g r 1 = qfy X ∧ gr g r 2 = qtx X ∧ gr g r 3 = qty X ∧ gr g r 4 = qrd X ∧ gr g r 5 = qdl X) ∧ (gd g d 4 = dse D ∧ gd g d 5 = dde D ∧ gd g d 6 = dli D) ∧ RIn R ∧ PIn (qfx X, qfy X) ∧ PIn (qtx X, qty X) ∧ 0 ≤ dse D ∧ 0 ≤ (dli D).toInt ∧ (dli D).toInt ≤ 400
theorem SHyp.len {g : Nat → Int32} {d r : Nat} {R : RS} {l : List Int32} {X : RdS} {D : DS} (H : SHyp g d r R l X D) {i j : Nat} (hij : i ≤ j) (hj : j ≤ l.length) : w_len g d (w_ins l r i j) = r_len R + r_lng R X i j ∧ (w_run g d (w_ins l r i j)).2.2.2.2.2 = r_ok (r_ins R (nI r) X i j) (dse D) (dde D) := by
  obtain ⟨h, hc, hl, hr, ⟨x0, x1, x2, x3, x4, x5⟩, ⟨y4, y5, y6⟩, hR, hp, hq, hse, -⟩ := H
  have hi := h.ins hr x0 x1 x2 x3 x4 x5 hij hj
  have hi2 : RIn (r_ins R (nI r) X i j) := hR.ins hp hq hij (by rw [h.1]; omega)
  have hc2 : ∀ c, c ∈ w_ins l r i j → SCode c := w_lay_c l hr i j hc (l.length + 1)
  have hn : (w_ins l r i j).length ≤ 900 := by
    rw [w_ins_len l r i j hij hj]
    omega
  constructor
  · rw [hi.len hi2 hc2]
    exact ins_len R (nI r) X i j hij (by rw [h.1]; omega)
  · rw [hi.ok hi2 hc2 hn (by rw [y4]; exact hse), y4, y5]
theorem SHyp.go {g : Nat → Int32} {d r : Nat} {R : RS} {l : List Int32} {X : RdS} {D : DS} (H : SHyp g d r R l X D) {s t : SS} (q : Sq (r_len R) s t) {i j : Nat} (hij : i ≤ j) (hj : j ≤ l.length) : Sq (r_len R) (s_go R (nI r) X D s i j) (f_go g d r l t i j) := by
  obtain ⟨e1, e2⟩ := H.len hij hj
  obtain ⟨h, hc, hl, hr, -, ⟨y4, y5, y6⟩, hR, hp, hq, hse, l1, l2⟩ := H
  obtain ⟨b1, b2⟩ := len_b hR (by rw [h.1]; omega) (by rw [h.1]; omega)
  obtain ⟨v1, v2⟩ := lng_b hR (X := X) hp hq hij (by rw [h.1]; omega)
  have d9 := dir_b hR (by rw [h.1]; omega)
  have h2 : 2 ≤ rn R := by rw [h.1]; omega
  have h3 : rn R ≤ 100 := by rw [h.1]; omega
  have hdir : w_dir g d = r_dir R := h.dir hR
  have hA : (r_len R + r_lng R X i j - r_dir R ≤ dli D) ↔ r_lng R X i j ≤ dli D - r_det R := det_le b1 b2 v1 v2 d9.1 d9.2 l1 l2
  have hB := q.lt b1 b2 v1 v2
  have hv : w_val g d (w_ins l r i j) = (r_ok (r_ins R (nI r) X i j) (dse D) (dde D) && decide (r_len R + r_lng R X i j - r_dir R ≤ dli D)) := by
    unfold w_val
    rw [e1, e2, hdir, y6]
  have hs : s_go R (nI r) X D s i j = if r_lng R X i j ≤ dli D - r_det R ∧ (s.1 = -1 ∨ r_lng R X i j < s.1) ∧ r_ok (r_ins R (nI r) X i j) (dse D) (dde D) = true then (r_lng R X i j, i, j) else s := rfl
  have hf : f_go g d r l t i j = if w_val g d (w_ins l r i j) && decide (w_len g d (w_ins l r i j) < t.1) then (w_len g d (w_ins l r i j), i, j) else t := rfl
  rw [hs, hf, hv, e1]
  exact Sq.go q v1 v2 hA hB
theorem SHyp.inn {g : Nat → Int32} {d r : Nat} {R : RS} {l : List Int32} {X : RdS} {D : DS} (H : SHyp g d r R l X D) {s t : SS} (q : Sq (r_len R) s t) (i : Nat) : ∀ m, i + m ≤ l.length + 1 → Sq (r_len R) (s_in R (nI r) X D s i m) (f_in g d r l t i m)
  | 0, _ => q
  | m + 1, hm => SHyp.go H (SHyp.inn H q i m (by omega)) (by omega) (by omega)
theorem SHyp.out {g : Nat → Int32} {d r : Nat} {R : RS} {l : List Int32} {X : RdS} {D : DS} (H : SHyp g d r R l X D) : ∀ i, i ≤ l.length + 1 → Sq (r_len R) (s_out R (nI r) X D (-1, 0, 0) i) (f_out g d r l i)
  | 0, _ => Or.inl ⟨rfl, rfl⟩
  | i + 1, hi => by
    have e : rn R - 1 - i = l.length + 1 - i := by
      rw [H.1.1]
      omega
    show Sq (r_len R) (s_in R (nI r) X D (s_out R (nI r) X D (-1, 0, 0) i) i (rn R - 1 - i)) (f_in g d r l (f_out g d r l i) i (l.length + 1 - i))
    rw [e]
    exact SHyp.inn H (SHyp.out H i (by omega)) i (l.length + 1 - i) (by omega)
/-- THE BEST INSERTION -/
theorem SHyp.best {g : Nat → Int32} {d r : Nat} {R : RS} {l : List Int32} {X : RdS} {D : DS} (H : SHyp g d r R l X D) (h38 : l.length ≤ 38) : Sq (r_len R) (s_best R (nI r) X D) (f_find g d r l) := by
  have e : rn R = l.length + 2 := H.1.1
  unfold s_best s_find f_find
  rw [if_pos (by omega), show rn R - 1 = l.length + 1 by omega]
  exact SHyp.out H (l.length + 1) (Nat.le_refl _)
