/-- bounds of a walk's state behind n stops -/
def Wb (n : Nat) (s : WS) : Prop := PIn (s.1, s.2.1) ∧ (0 ≤ s.2.2.1.toInt ∧ s.2.2.1.toInt ≤ 1439 + 198 * n) ∧ (-(n : Int) ≤ s.2.2.2.1.toInt ∧ s.2.2.2.1.toInt ≤ n) ∧ (0 ≤ s.2.2.2.2.1.toInt ∧ s.2.2.2.2.1.toInt ≤ 198 * n)
def Cok (g : Nat → Int32) (c : Int32) : Prop := PIn (w_sx g c, w_sy g c) ∧ 0 ≤ (gr g (c_num c) 4).toInt ∧ (gr g (c_num c) 4).toInt ≤ 1439
theorem i_max_i (x y : Int32) : (i_max x y).toInt = max x.toInt y.toInt := by
  unfold i_max
  by_cases h : x < y
  · rw [if_pos h]
    have := Int32.lt_iff_toInt_lt.mp h
    omega
  · rw [if_neg h]
    have := Int32.le_iff_toInt_le.mp (Int32.not_lt.mp h)
    omega
theorem ad_i {x y : Int32} (h1 : -100000 ≤ x.toInt) (h2 : x.toInt ≤ 100000) (h3 : -100000 ≤ y.toInt) (h4 : y.toInt ≤ 100000) : (x + y).toInt = x.toInt + y.toInt := (sb_i h1 h2 h3 h4).2
theorem w_go_i {g : Nat → Int32} {d n : Nat} {s : WS} {c : Int32} (b : Wb n s) (hn : n < 100) (hc : Cok g c) : Wb (n + 1) (w_go g d s c) ∧ ((w_go g d s c).1 = w_sx g c ∧ (w_go g d s c).2.1 = w_sy g c) ∧
    (w_go g d s c).2.2.1.toInt = (if c < 100 then max (s.2.2.1.toInt + (dpt (s.1, s.2.1) (w_sx g c, w_sy g c)).toInt) (gr g (c_num c) 4).toInt else s.2.2.1.toInt + (dpt (s.1, s.2.1) (w_sx g c, w_sy g c)).toInt) ∧
    (w_go g d s c).2.2.2.1.toInt = (if c < 100 then s.2.2.2.1.toInt + 1 else s.2.2.2.1.toInt - 1) ∧
    (w_go g d s c).2.2.2.2.1.toInt = s.2.2.2.2.1.toInt + (dpt (s.1, s.2.1) (w_sx g c, w_sy g c)).toInt ∧
    ((w_go g d s c).2.2.2.2.2 = true ↔ s.2.2.2.2.2 = true ∧ (if c < 100 then s.2.2.2.1.toInt + 1 ≤ (gd g d 4).toInt else s.2.2.1.toInt + (dpt (s.1, s.2.1) (w_sx g c, w_sy g c)).toInt ≤ (gr g (c_num c) 5).toInt)) := by
  obtain ⟨b0, ⟨b1, b2⟩, ⟨b3, b4⟩, ⟨b5, b6⟩⟩ := b
  obtain ⟨c0, c1, c2⟩ := hc
  obtain ⟨d1, d2⟩ := dpt_b b0 c0
  have ew : w_way g s c = dpt (s.1, s.2.1) (w_sx g c, w_sy g c) := rfl
  have e1 : (s.2.2.1 + w_way g s c).toInt = s.2.2.1.toInt + (dpt (s.1, s.2.1) (w_sx g c, w_sy g c)).toInt := by
    rw [ew]
    exact ad_i (by omega) (by omega) (by omega) (by omega)
  have e2 : (s.2.2.2.2.1 + w_way g s c).toInt = s.2.2.2.2.1.toInt + (dpt (s.1, s.2.1) (w_sx g c, w_sy g c)).toInt := by
    rw [ew]
    exact ad_i (by omega) (by omega) (by omega) (by omega)
  have o1 : (1 : Int32).toInt = 1 := rfl
  have o2 : (-1 : Int32).toInt = -1 := rfl
  have e3 : (s.2.2.2.1 + 1).toInt = s.2.2.2.1.toInt + 1 := ad_i (by omega) (by omega) (by omega) (by omega)
  have e4 : (s.2.2.2.1 + -1).toInt = s.2.2.2.1.toInt + -1 := ad_i (by omega) (by omega) (by omega) (by omega)
  by_cases q : c < 100
  · have e : w_go g d s c = (w_sx g c, w_sy g c, i_max (s.2.2.1 + w_way g s c) (gr g (c_num c) 4), s.2.2.2.1 + 1, s.2.2.2.2.1 + w_way g s c, s.2.2.2.2.2 && decide (s.2.2.2.1 + 1 ≤ gd g d 4)) := if_pos q
    have em : (i_max (s.2.2.1 + w_way g s c) (gr g (c_num c) 4)).toInt = max (s.2.2.1.toInt + (dpt (s.1, s.2.1) (w_sx g c, w_sy g c)).toInt) (gr g (c_num c) 4).toInt := by rw [i_max_i, e1]
    rw [e, if_pos q, if_pos q, if_pos q]
    refine ⟨⟨c0, ?_, ?_, ?_⟩, ⟨rfl, rfl⟩, em, e3, e2, ?_⟩
    · show 0 ≤ (i_max (s.2.2.1 + w_way g s c) (gr g (c_num c) 4)).toInt ∧ (i_max (s.2.2.1 + w_way g s c) (gr g (c_num c) 4)).toInt ≤ _
      rw [em]
      omega
    · show _ ≤ (s.2.2.2.1 + 1).toInt ∧ (s.2.2.2.1 + 1).toInt ≤ _
      rw [e3]
      omega
    · show 0 ≤ (s.2.2.2.2.1 + w_way g s c).toInt ∧ (s.2.2.2.2.1 + w_way g s c).toInt ≤ _
      rw [e2]
      omega
    · show (s.2.2.2.2.2 && decide (s.2.2.2.1 + 1 ≤ gd g d 4)) = true ↔ _
      rw [Bool.and_eq_true, decide_eq_true_iff, Int32.le_iff_toInt_le, e3]
  · have e : w_go g d s c = (w_sx g c, w_sy g c, s.2.2.1 + w_way g s c, s.2.2.2.1 + -1, s.2.2.2.2.1 + w_way g s c, s.2.2.2.2.2 && decide (s.2.2.1 + w_way g s c ≤ gr g (c_num c) 5)) := if_neg q
    rw [e, if_neg q, if_neg q, if_neg q]
    refine ⟨⟨c0, ?_, ?_, ?_⟩, ⟨rfl, rfl⟩, e1, e4, e2, ?_⟩
    · show 0 ≤ (s.2.2.1 + w_way g s c).toInt ∧ (s.2.2.1 + w_way g s c).toInt ≤ _
      rw [e1]
      omega
    · show _ ≤ (s.2.2.2.1 + -1).toInt ∧ (s.2.2.2.1 + -1).toInt ≤ _
      rw [e4]
      omega
    · show 0 ≤ (s.2.2.2.2.1 + w_way g s c).toInt ∧ (s.2.2.2.2.1 + w_way g s c).toInt ≤ _
      rw [e2]
      omega
    · show (s.2.2.2.2.2 && decide (s.2.2.1 + w_way g s c ≤ gr g (c_num c) 5)) = true ↔ _
      rw [Bool.and_eq_true, decide_eq_true_iff, Int32.le_iff_toInt_le, e1]
theorem dpt_0 {a : Int32 × Int32} (h : PIn a) : (dpt a a).toInt = 0 := by
  rw [dpt_i h h]
  omega
/-- the walk without a rider runs ahead of the walk with the rider -/
def Wsim (k : Int) (s s' : WS) : Prop := s'.2.2.1.toInt + (dpt (s'.1, s'.2.1) (s.1, s.2.1)).toInt ≤ s.2.2.1.toInt ∧ s'.2.2.2.2.1.toInt + (dpt (s'.1, s'.2.1) (s.1, s.2.1)).toInt ≤ s.2.2.2.2.1.toInt ∧ s.2.2.2.1.toInt = s'.2.2.2.1.toInt + k ∧ (s.2.2.2.2.2 = true → s'.2.2.2.2.2 = true)
theorem Wsim.both {g : Nat → Int32} {d n : Nat} {s s' : WS} {c : Int32} {k : Int} (x : Wsim k s s') (b : Wb n s) (b' : Wb n s') (hk : 0 ≤ k) (hn : n < 100) (hc : Cok g c) : Wsim k (w_go g d s c) (w_go g d s' c) := by
  have tri := dpt_tri b'.1 b.1 hc.1
  obtain ⟨-, ⟨p1, p2⟩, t, i, l, o⟩ := w_go_i (d := d) b hn hc
  obtain ⟨-, ⟨p1', p2'⟩, t', i', l', o'⟩ := w_go_i (d := d) b' hn hc
  obtain ⟨x1, x2, x3, x4⟩ := x
  unfold Wsim
  rw [p1, p2, p1', p2', t, t', i, i', l, l', o, o', dpt_0 hc.1]
  by_cases q : c < 100
  · simp only [if_pos q]
    exact ⟨by omega, by omega, by omega, fun z => ⟨x4 z.1, by omega⟩⟩
  · simp only [if_neg q]
    exact ⟨by omega, by omega, by omega, fun z => ⟨x4 z.1, by omega⟩⟩
theorem Wsim.one {g : Nat → Int32} {d n : Nat} {s s' : WS} {c : Int32} {k : Int} (x : Wsim k s s') (b : Wb n s) (b' : Wb n s') (hn : n < 100) (hc : Cok g c) : Wsim (if c < 100 then k + 1 else k - 1) (w_go g d s c) s' := by
  have tri := dpt_tri b'.1 b.1 hc.1
  obtain ⟨-, ⟨p1, p2⟩, t, i, l, o⟩ := w_go_i (d := d) b hn hc
  obtain ⟨x1, x2, x3, x4⟩ := x
  unfold Wsim
  rw [p1, p2, t, i, l, o]
  by_cases q : c < 100
  · simp only [if_pos q]
    exact ⟨by omega, by omega, by omega, fun z => x4 z.1⟩
  · simp only [if_neg q]
    exact ⟨by omega, by omega, by omega, fun z => x4 z.1⟩
theorem Wb.mono {n : Nat} {s : WS} (b : Wb n s) : Wb (n + 1) s := by
  obtain ⟨b0, b1, b2, b3⟩ := b
  exact ⟨b0, by omega, by omega, by omega⟩
theorem wo_pos {r : Nat} {c : Int32} {l : List Int32} (h : ofr r c = true) : w_wo (nI r) (c :: l) = w_wo (nI r) l := by
  have h2 : decide (i_rem c = nI r) = true := h
  unfold w_wo
  rw [List.filter_cons, if_neg (by rw [h2]; decide)]
theorem wo_neg {r : Nat} {c : Int32} {l : List Int32} (h : ¬ ofr r c = true) : w_wo (nI r) (c :: l) = c :: w_wo (nI r) l := by
  have h2 : decide (i_rem c = nI r) = false := by
    cases e : decide (i_rem c = nI r)
    · rfl
    · exact absurd e h
  unfold w_wo
  rw [List.filter_cons, if_pos (by rw [h2]; decide)]
theorem wo_sim {g : Nat → Int32} {d r : Nat} (hr : r < 20) : ∀ (m : List Int32) (n : Nat) (s s' : WS) (k : Int), n + m.length ≤ 100 → (∀ c, c ∈ m → Cok g c) → Wb n s → Wb n s' → Wsim k s s' → ((k = 0 ∧ (m.filter (ofr r) = [nI r, nI (100 + r)] ∨ m.filter (ofr r) = [])) ∨ (k = 1 ∧ m.filter (ofr r) = [nI (100 + r)])) →
    Wsim 0 (m.foldl (w_go g d) s) ((w_wo (nI r) m).foldl (w_go g d) s') ∧ Wb (n + m.length) (m.foldl (w_go g d) s) ∧ Wb (n + m.length) ((w_wo (nI r) m).foldl (w_go g d) s')
  | [], n, s, s', k, _, _, b, b', x, hk => by
    rcases hk with ⟨rfl, -⟩ | ⟨-, z⟩
    · exact ⟨x, b, b'⟩
    · exact absurd z (by simp)
  | c :: m, n, s, s', k, hn, hc, b, b', x, hk => by
    have hn2 : n + 1 + m.length ≤ 100 := by
      rw [List.length_cons] at hn
      omega
    have e9 : n + (c :: m).length = n + 1 + m.length := by
      rw [List.length_cons]
      omega
    have c0 := hc c List.mem_cons_self
    have ih := wo_sim (g := g) (d := d) hr m (n + 1)
    have b2 := (w_go_i (d := d) b (by omega) c0).1
    rw [e9, List.foldl_cons]
    by_cases z : ofr r c = true
    · rw [wo_pos z]
      rw [List.filter_cons, if_pos z] at hk
      have o := x.one (g := g) (d := d) b b' (by omega) c0
      rcases hk with ⟨rfl, y | y⟩ | ⟨rfl, y⟩
      · injection y with y1 y2
        subst y1
        rw [if_pos (c_of r hr).1] at o
        exact ih _ _ (0 + 1) hn2 (fun c' m' => hc c' (List.mem_cons_of_mem _ m')) b2 b'.mono o (Or.inr ⟨rfl, y2⟩)
      · exact absurd y (by simp)
      · injection y with y1 y2
        subst y1
        rw [if_neg (c_of r hr).2.1] at o
        exact ih _ _ (1 - 1) hn2 (fun c' m' => hc c' (List.mem_cons_of_mem _ m')) b2 b'.mono o (Or.inl ⟨rfl, Or.inr y2⟩)
    · rw [wo_neg z, List.foldl_cons]
      rw [List.filter_cons, if_neg z] at hk
      exact ih _ _ k hn2 (fun c' m' => hc c' (List.mem_cons_of_mem _ m')) b2 (w_go_i (d := d) b' (by omega) c0).1 (x.both b b' (by omega) (by omega) c0) hk
theorem Wb.st {g : Nat → Int32} {d : Nat} (h : IvD g d) : Wb 0 (w_st g d) := by
  obtain ⟨h0, h1, h2, h3, -⟩ := h
  refine ⟨h0, ?_, ?_, ?_⟩
  · show 0 ≤ (gd g d 5).toInt ∧ (gd g d 5).toInt ≤ 1439 + 198 * ((0 : Nat) : Int)
    omega
  · show -((0 : Nat) : Int) ≤ (0 : Int32).toInt ∧ (0 : Int32).toInt ≤ ((0 : Nat) : Int)
    decide
  · show 0 ≤ (0 : Int32).toInt ∧ (0 : Int32).toInt ≤ 198 * ((0 : Nat) : Int)
    decide
/-- THE REMOVAL of a rider makes a route no longer and keeps it valid -/
theorem wo_val {g : Nat → Int32} {d r : Nat} {l : List Int32} (hD : IvD g d) (hr : r < 20) (hn : l.length ≤ 100) (hc : ∀ c, c ∈ l → Cok g c) (hf : l.filter (ofr r) = [nI r, nI (100 + r)] ∨ l.filter (ofr r) = []) :
    (0 ≤ (w_len g d (w_wo (nI r) l)).toInt ∧ (w_len g d (w_wo (nI r) l)).toInt ≤ (w_len g d l).toInt ∧ (w_len g d l).toInt ≤ 19998) ∧ (w_val g d l = true → w_val g d (w_wo (nI r) l) = true) := by
  have b := Wb.st hD
  have s0 : Wsim 0 (w_st g d) (w_st g d) := by
    have := dpt_0 b.1
    exact ⟨by omega, by omega, by omega, fun z => z⟩
  obtain ⟨x, b1, b2⟩ := wo_sim hr l 0 _ _ 0 (by omega) hc b b s0 (Or.inl ⟨rfl, hf⟩)
  obtain ⟨x1, x2, x3, x4⟩ := x
  have e1 : l.foldl (w_go g d) (w_st g d) = w_run g d l := rfl
  have e2 : (w_wo (nI r) l).foldl (w_go g d) (w_st g d) = w_run g d (w_wo (nI r) l) := rfl
  rw [e1, e2] at x1 x2 x3 x4
  rw [e1] at b1
  rw [e2] at b2
  have hE := hD.2.1
  have q1 := dpt_b b1.1 hE
  have q2 := dpt_b b2.1 hE
  have tri := dpt_tri b2.1 b1.1 hE
  obtain ⟨-, -, -, u1, u2⟩ := b1
  obtain ⟨-, -, -, v1, v2⟩ := b2
  have l1 : (w_len g d l).toInt = (w_run g d l).2.2.2.2.1.toInt + (dpt ((w_run g d l).1, (w_run g d l).2.1) (gd g d 2, gd g d 3)).toInt := ad_i (by omega) (by omega) (by show _ ≤ (dpt _ _).toInt; omega) (by show (dpt _ _).toInt ≤ _; omega)
  have l2 : (w_len g d (w_wo (nI r) l)).toInt = (w_run g d (w_wo (nI r) l)).2.2.2.2.1.toInt + (dpt ((w_run g d (w_wo (nI r) l)).1, (w_run g d (w_wo (nI r) l)).2.1) (gd g d 2, gd g d 3)).toInt := ad_i (by omega) (by omega) (by show _ ≤ (dpt _ _).toInt; omega) (by show (dpt _ _).toInt ≤ _; omega)
  have hd := dpt_b hD.1 hE
  have ed : w_dir g d = dpt (gd g d 0, gd g d 1) (gd g d 2, gd g d 3) := rfl
  refine ⟨by omega, fun hv => ?_⟩
  unfold w_val at hv ⊢
  rw [Bool.and_eq_true, decide_eq_true_iff, Int32.le_iff_toInt_le] at hv ⊢
  rw [(sb_i (x := w_len g d l) (y := w_dir g d) (by omega) (by omega) (by rw [ed]; omega) (by rw [ed]; omega)).1] at hv
  rw [(sb_i (x := w_len g d (w_wo (nI r) l)) (y := w_dir g d) (by omega) (by omega) (by rw [ed]; omega) (by rw [ed]; omega)).1]
  exact ⟨x4 hv.1, by omega⟩
