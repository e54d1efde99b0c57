/-- bounds of a walk's state behind n stops -/
def Wb (n : Nat) (s : WS) : Prop := PIn (s.1, s.2.1) ∧ (0 ≤ s.2.2.1.toInt ∧ s.2.2.1.toInt ≤ 1439 + 198 * n) ∧ (-(n : Int) ≤ s.2.2.2.1.toInt ∧ s.2.2.2.1.toInt ≤ n) ∧ (0 ≤ s.2.2.2.2.1.toInt ∧ s.2.2.2.2.1.toInt ≤ 198 * n)
def Cok (g : Nat → Int32) (c : Int32) : Prop := PIn (w_sx g c, w_sy g c) ∧ 0 ≤ (gr g (c_num c) 4).toInt ∧ (gr g (c_num c) 4).toInt ≤ 1439
theorem i_max_i (x y : Int32) : (i_max x y).toInt = max x.toInt y.toInt := by
  unfold i_max
  by_cases h : x < y
  · rw [if_pos h]
    have := Int32.lt_iff_toInt_lt.mp h
    omega
  · rw [if_neg h]
    have := Int32.le_iff_toInt_le.mp (Int32.not_lt.mp h)
    omega
theorem ad_i {x y : Int32} (h1 : -100000 ≤ x.toInt) (h2 : x.toInt ≤ 100000) (h3 : -100000 ≤ y.toInt) (h4 : y.toInt ≤ 100000) : (x + y).toInt = x.toInt + y.toInt := (sb_i h1 h2 h3 h4).2
theorem wb_t {n : Nat} {t δ rd : Int} (b1 : 0 ≤ t) (b2 : t ≤ 1439 + 198 * n) (d1 : 0 ≤ δ) (d2 : δ ≤ 198) (c1 : 0 ≤ rd) (c2 : rd ≤ 1439) : (0 ≤ max (t + δ) rd ∧ max (t + δ) rd ≤ 1439 + 198 * ((n + 1 : Nat) : Int)) ∧ (0 ≤ t + δ ∧ t + δ ≤ 1439 + 198 * ((n + 1 : Nat) : Int)) := by omega
theorem wb_ic {n : Nat} {i : Int} (b1 : -(n : Int) ≤ i) (b2 : i ≤ n) : (-((n + 1 : Nat) : Int) ≤ i + 1 ∧ i + 1 ≤ ((n + 1 : Nat) : Int)) ∧ (-((n + 1 : Nat) : Int) ≤ i + -1 ∧ i + -1 ≤ ((n + 1 : Nat) : Int)) := by omega
theorem wb_l {n : Nat} {l δ : Int} (b1 : 0 ≤ l) (b2 : l ≤ 198 * n) (d1 : 0 ≤ δ) (d2 : δ ≤ 198) : 0 ≤ l + δ ∧ l + δ ≤ 198 * ((n + 1 : Nat) : Int) := by omega
theorem ad_t {x y : Int32} {n : Nat} (hn : n < 100) (b1 : 0 ≤ x.toInt) (b2 : x.toInt ≤ 1439 + 198 * n) (d1 : 0 ≤ y.toInt) (d2 : y.toInt ≤ 198) : (x + y).toInt = x.toInt + y.toInt := ad_i (by omega) (by omega) (by omega) (by omega)
theorem ad_v {x y : Int32} {n : Nat} (hn : n ≤ 100) (b1 : 0 ≤ x.toInt) (b2 : x.toInt ≤ 198 * n) (d1 : 0 ≤ y.toInt) (d2 : y.toInt ≤ 198) : (x + y).toInt = x.toInt + y.toInt := ad_i (by omega) (by omega) (by omega) (by omega)
theorem ad_c {x : Int32} {n : Nat} (hn : n < 100) (b1 : -(n : Int) ≤ x.toInt) (b2 : x.toInt ≤ n) : (x + 1).toInt = x.toInt + 1 ∧ (x + -1).toInt = x.toInt + -1 := by
  have o1 : (1 : Int32).toInt = 1 := rfl
  have o2 : (-1 : Int32).toInt = -1 := rfl
  exact ⟨ad_i (by omega) (by omega) (by omega) (by omega), ad_i (by omega) (by omega) (by omega) (by omega)⟩
theorem w_go_i {g : Nat → Int32} {d n : Nat} {s : WS} {c : Int32} (b : Wb n s) (hn : n < 100) (hc : Cok g c) : Wb (n + 1) (w_go g d s c) ∧ ((w_go g d s c).1 = w_sx g c ∧ (w_go g d s c).2.1 = w_sy g c) ∧
    (w_go g d s c).2.2.1.toInt = (if c < 100 then max (s.2.2.1.toInt + (dpt (s.1, s.2.1) (w_sx g c, w_sy g c)).toInt) (gr g (c_num c) 4).toInt else s.2.2.1.toInt + (dpt (s.1, s.2.1) (w_sx g c, w_sy g c)).toInt) ∧
    (w_go g d s c).2.2.2.1.toInt = (if c < 100 then s.2.2.2.1.toInt + 1 else s.2.2.2.1.toInt - 1) ∧
    (w_go g d s c).2.2.2.2.1.toInt = s.2.2.2.2.1.toInt + (dpt (s.1, s.2.1) (w_sx g c, w_sy g c)).toInt ∧
    ((w_go g d s c).2.2.2.2.2 = true ↔ s.2.2.2.2.2 = true ∧ (if c < 100 then s.2.2.2.1.toInt + 1 ≤ (gd g d 4).toInt else s.2.2.1.toInt + (dpt (s.1, s.2.1) (w_sx g c, w_sy g c)).toInt ≤ (gr g (c_num c) 5).toInt)) := by
  obtain ⟨b0, ⟨b1, b2⟩, ⟨b3, b4⟩, ⟨b5, b6⟩⟩ := b
  obtain ⟨c0, c1, c2⟩ := hc
  obtain ⟨d1, d2⟩ := dpt_b b0 c0
  have ew : w_way g s c = dpt (s.1, s.2.1) (w_sx g c, w_sy g c) := (k_i b0 c0).symm
  have e1 : (s.2.2.1 + w_way g s c).toInt = s.2.2.1.toInt + (dpt (s.1, s.2.1) (w_sx g c, w_sy g c)).toInt := by
    rw [ew]
    exact ad_t hn b1 b2 d1 d2
  have e2 : (s.2.2.2.2.1 + w_way g s c).toInt = s.2.2.2.2.1.toInt + (dpt (s.1, s.2.1) (w_sx g c, w_sy g c)).toInt := by
    rw [ew]
    exact ad_v (Nat.le_of_lt hn) b5 b6 d1 d2
  obtain ⟨e3, e4⟩ := ad_c hn b3 b4
  obtain ⟨k1, k2⟩ := wb_t b1 b2 d1 d2 c1 c2
  obtain ⟨k3, k4⟩ := wb_ic b3 b4
  have k5 := wb_l b5 b6 d1 d2
  by_cases q : c < 100
  · have e : w_go g d s c = (w_sx g c, w_sy g c, i_max (s.2.2.1 + w_way g s c) (gr g (c_num c) 4), s.2.2.2.1 + 1, s.2.2.2.2.1 + w_way g s c, s.2.2.2.2.2 && decide (s.2.2.2.1 + 1 ≤ gd g d 4)) := if_pos q
    have em : (i_max (s.2.2.1 + w_way g s c) (gr g (c_num c) 4)).toInt = max (s.2.2.1.toInt + (dpt (s.1, s.2.1) (w_sx g c, w_sy g c)).toInt) (gr g (c_num c) 4).toInt := by rw [i_max_i, e1]
    rw [e, if_pos q, if_pos q, if_pos q]
    refine ⟨⟨c0, ?_, ?_, ?_⟩, ⟨rfl, rfl⟩, em, e3, e2, ?_⟩
    · show 0 ≤ (i_max (s.2.2.1 + w_way g s c) (gr g (c_num c) 4)).toInt ∧ (i_max (s.2.2.1 + w_way g s c) (gr g (c_num c) 4)).toInt ≤ _
      rw [em]
      exact k1
    · show _ ≤ (s.2.2.2.1 + 1).toInt ∧ (s.2.2.2.1 + 1).toInt ≤ _
      rw [e3]
      exact k3
    · show 0 ≤ (s.2.2.2.2.1 + w_way g s c).toInt ∧ (s.2.2.2.2.1 + w_way g s c).toInt ≤ _
      rw [e2]
      exact k5
    · show (s.2.2.2.2.2 && decide (s.2.2.2.1 + 1 ≤ gd g d 4)) = true ↔ _
      rw [Bool.and_eq_true, decide_eq_true_iff, Int32.le_iff_toInt_le, e3]
  · have e : w_go g d s c = (w_sx g c, w_sy g c, s.2.2.1 + w_way g s c, s.2.2.2.1 + -1, s.2.2.2.2.1 + w_way g s c, s.2.2.2.2.2 && decide (s.2.2.1 + w_way g s c ≤ gr g (c_num c) 5)) := if_neg q
    rw [e, if_neg q, if_neg q, if_neg q]
    refine ⟨⟨c0, ?_, ?_, ?_⟩, ⟨rfl, rfl⟩, e1, e4, e2, ?_⟩
    · show 0 ≤ (s.2.2.1 + w_way g s c).toInt ∧ (s.2.2.1 + w_way g s c).toInt ≤ _
      rw [e1]
      exact k2
    · show _ ≤ (s.2.2.2.1 + -1).toInt ∧ (s.2.2.2.1 + -1).toInt ≤ _
      rw [e4]
      exact k4
    · show 0 ≤ (s.2.2.2.2.1 + w_way g s c).toInt ∧ (s.2.2.2.2.1 + w_way g s c).toInt ≤ _
      rw [e2]
      exact k5
    · show (s.2.2.2.2.2 && decide (s.2.2.1 + w_way g s c ≤ gr g (c_num c) 5)) = true ↔ _
      rw [Bool.and_eq_true, decide_eq_true_iff, Int32.le_iff_toInt_le, e1]
theorem dpt_0 {a : Int32 × Int32} (h : PIn a) : (dpt a a).toInt = 0 := by
  rw [dpt_i h h]
  omega
/-- the walk without a rider runs ahead of the walk with the rider -/
def Wsim (k : Int) (s s' : WS) : Prop := s'.2.2.1.toInt + (dpt (s'.1, s'.2.1) (s.1, s.2.1)).toInt ≤ s.2.2.1.toInt ∧ s'.2.2.2.2.1.toInt + (dpt (s'.1, s'.2.1) (s.1, s.2.1)).toInt ≤ s.2.2.2.2.1.toInt ∧ s.2.2.2.1.toInt = s'.2.2.2.1.toInt + k ∧ (s.2.2.2.2.2 = true → s'.2.2.2.2.2 = true)
theorem Wsim.both {g : Nat → Int32} {d n : Nat} {s s' : WS} {c : Int32} {k : Int} (x : Wsim k s s') (b : Wb n s) (b' : Wb n s') (hk : 0 ≤ k) (hn : n < 100) (hc : Cok g c) : Wsim k (w_go g d s c) (w_go g d s' c) := by
  have tri := dpt_tri b'.1 b.1 hc.1
  obtain ⟨-, ⟨p1, p2⟩, t, i, l, o⟩ := w_go_i (d := d) b hn hc
  obtain ⟨-, ⟨p1', p2'⟩, t', i', l', o'⟩ := w_go_i (d := d) b' hn hc
  obtain ⟨x1, x2, x3, x4⟩ := x
  unfold Wsim
  rw [p1, p2, p1', p2', t, t', i, i', l, l', o, o', dpt_0 hc.1]
  by_cases q : c < 100
  · simp only [if_pos q]
    exact ⟨by omega, by omega, by omega, fun z => ⟨x4 z.1, by omega⟩⟩
  · simp only [if_neg q]
    exact ⟨by omega, by omega, by omega, fun z => ⟨x4 z.1, by omega⟩⟩
theorem Wsim.one {g : Nat → Int32} {d n : Nat} {s s' : WS} {c : Int32} {k : Int} (x : Wsim k s s') (b : Wb n s) (b' : Wb n s') (hn : n < 100) (hc : Cok g c) : Wsim (if c < 100 then k + 1 else k - 1) (w_go g d s c) s' := by
  have tri := dpt_tri b'.1 b.1 hc.1
  obtain ⟨-, ⟨p1, p2⟩, t, i, l, o⟩ := w_go_i (d := d) b hn hc
  obtain ⟨x1, x2, x3, x4⟩ := x
  unfold Wsim
  rw [p1, p2, t, i, l, o]
  by_cases q : c < 100
  · simp only [if_pos q]
    exact ⟨by omega, by omega, by omega, fun z => x4 z.1⟩
  · simp only [if_neg q]
    exact ⟨by omega, by omega, by omega, fun z => x4 z.1⟩
theorem Wb.mono {n : Nat} {s : WS} (b : Wb n s) : Wb (n + 1) s := by
  obtain ⟨b0, b1, b2, b3⟩ := b
  exact ⟨b0, by omega, by omega, by omega⟩
theorem wo_pos {r : Nat} {c : Int32} {l : List Int32} (h : ofr r c = true) : w_wo (nI r) (c :: l) = w_wo (nI r) l := by
  have h2 : decide (i_rem c = nI r) = true := h
  unfold w_wo
  rw [List.filter_cons, if_neg (by rw [h2]; decide)]
theorem wo_neg {r : Nat} {c : Int32} {l : List Int32} (h : ¬ ofr r c = true) : w_wo (nI r) (c :: l) = c :: w_wo (nI r) l := by
  have h2 : decide (i_rem c = nI r) = false := by
    cases e : decide (i_rem c = nI r)
    · rfl
    · exact absurd e h
  unfold w_wo
  rw [List.filter_cons, if_pos (by rw [h2]; decide)]
theorem wo_sim {g : Nat → Int32} {d r : Nat} (hr : r < 20) : ∀ (m : List Int32) (n : Nat) (s s' : WS) (k : Int), n + m.length ≤ 100 → (∀ c, c ∈ m → Cok g c) → Wb n s → Wb n s' → Wsim k s s' → ((k = 0 ∧ (m.filter (ofr r) = [nI r, nI (100 + r)] ∨ m.filter (ofr r) = [])) ∨ (k = 1 ∧ m.filter (ofr r) = [nI (100 + r)])) →
    Wsim 0 (m.foldl (w_go g d) s) ((w_wo (nI r) m).foldl (w_go g d) s') ∧ Wb (n + m.length) (m.foldl (w_go g d) s) ∧ Wb (n + m.length) ((w_wo (nI r) m).foldl (w_go g d) s')
  | [], n, s, s', k, _, _, b, b', x, hk => by
    rcases hk with ⟨rfl, -⟩ | ⟨-, z⟩
    · exact ⟨x, b, b'⟩
    · exact absurd z (by simp)
  | c :: m, n, s, s', k, hn, hc, b, b', x, hk => by
    have hn2 : n + 1 + m.length ≤ 100 := by
      rw [List.length_cons] at hn
      omega
    have e9 : n + (c :: m).length = n + 1 + m.length := by
      rw [List.length_cons]
      omega
    have c0 := hc c List.mem_cons_self
    have ih := wo_sim (g := g) (d := d) hr m (n + 1)
    have b2 := (w_go_i (d := d) b (by omega) c0).1
    rw [e9, List.foldl_cons]
    by_cases z : ofr r c = true
    · rw [wo_pos z]
      rw [List.filter_cons, if_pos z] at hk
      have o := x.one (g := g) (d := d) b b' (by omega) c0
      rcases hk with ⟨rfl, y | y⟩ | ⟨rfl, y⟩
      · injection y with y1 y2
        subst y1
        rw [if_pos (c_of r hr).1] at o
        exact ih _ _ (0 + 1) hn2 (fun c' m' => hc c' (List.mem_cons_of_mem _ m')) b2 b'.mono o (Or.inr ⟨rfl, y2⟩)
      · exact absurd y (by simp)
      · injection y with y1 y2
        subst y1
        rw [if_neg (c_of r hr).2.1] at o
        exact ih _ _ (1 - 1) hn2 (fun c' m' => hc c' (List.mem_cons_of_mem _ m')) b2 b'.mono o (Or.inl ⟨rfl, Or.inr y2⟩)
    · rw [wo_neg z, List.foldl_cons]
      rw [List.filter_cons, if_neg z] at hk
      exact ih _ _ k hn2 (fun c' m' => hc c' (List.mem_cons_of_mem _ m')) b2 (w_go_i (d := d) b' (by omega) c0).1 (x.both b b' (by omega) (by omega) c0) hk
theorem Wb.st {g : Nat → Int32} {d : Nat} (h : IvD g d) : Wb 0 (w_st g d) := by
  obtain ⟨h0, h1, h2, h3, -⟩ := h
  refine ⟨h0, ?_, ?_, ?_⟩
  · show 0 ≤ (gd g d 5).toInt ∧ (gd g d 5).toInt ≤ 1439 + 198 * ((0 : Nat) : Int)
    omega
  · show -((0 : Nat) : Int) ≤ (0 : Int32).toInt ∧ (0 : Int32).toInt ≤ ((0 : Nat) : Int)
    decide
  · show 0 ≤ (0 : Int32).toInt ∧ (0 : Int32).toInt ≤ 198 * ((0 : Nat) : Int)
    decide
/-- THE REMOVAL of a rider makes a route no longer and keeps it valid -/
theorem len_i {g : Nat → Int32} {d n : Nat} {l : List Int32} (b : Wb n (w_run g d l)) (hn : n ≤ 100) (hE : PIn (gd g d 2, gd g d 3)) : (w_len g d l).toInt = (w_run g d l).2.2.2.2.1.toInt + (dpt ((w_run g d l).1, (w_run g d l).2.1) (gd g d 2, gd g d 3)).toInt := by
  have e : w_len g d l = (w_run g d l).2.2.2.2.1 + dpt ((w_run g d l).1, (w_run g d l).2.1) (gd g d 2, gd g d 3) := by
    show (w_run g d l).2.2.2.2.1 + w_end g d (w_run g d l) = (w_run g d l).2.2.2.2.1 + k_dist (w_run g d l).1 (w_run g d l).2.1 (gd g d 2) (gd g d 3)
    rw [k_i b.1 hE]
    rfl
  have q := dpt_b b.1 hE
  rw [e]
  exact ad_v hn b.2.2.2.1 b.2.2.2.2 q.1 q.2
theorem wo_ar {a a' p p' m : Int} {n : Nat} (x2 : a' + m ≤ a) (tri : p' ≤ m + p) (h1 : 0 ≤ a') (h2 : 0 ≤ p') (h3 : a ≤ 198 * n) (h4 : p ≤ 198) (hn : n ≤ 100) : 0 ≤ a' + p' ∧ a' + p' ≤ a + p ∧ a + p ≤ 19998 := by omega
theorem wv_le {l l' dr li : Int32} (b : 0 ≤ l'.toInt) (b2 : l'.toInt ≤ l.toInt) (b3 : l.toInt ≤ 19998) (d1 : 0 ≤ dr.toInt) (d2 : dr.toInt ≤ 198) (h : l - dr ≤ li) : l' - dr ≤ li := by
  rw [Int32.le_iff_toInt_le] at h ⊢
  rw [(sb_i (x := l) (y := dr) (by omega) (by omega) (by omega) (by omega)).1] at h
  rw [(sb_i (x := l') (y := dr) (by omega) (by omega) (by omega) (by omega)).1]
  omega
theorem wo_val {g : Nat → Int32} {d r : Nat} {l : List Int32} (hD : IvD g d) (hr : r < 20) (hn : l.length ≤ 100) (hc : ∀ c, c ∈ l → Cok g c) (hf : l.filter (ofr r) = [nI r, nI (100 + r)] ∨ l.filter (ofr r) = []) :
    (0 ≤ (w_len g d (w_wo (nI r) l)).toInt ∧ (w_len g d (w_wo (nI r) l)).toInt ≤ (w_len g d l).toInt ∧ (w_len g d l).toInt ≤ 19998) ∧ (w_val g d l = true → w_val g d (w_wo (nI r) l) = true) := by
  have b := Wb.st hD
  have s0 : Wsim 0 (w_st g d) (w_st g d) := by
    have := dpt_0 b.1
    exact ⟨by omega, by omega, by omega, fun z => z⟩
  obtain ⟨x, b1, b2⟩ := wo_sim hr l 0 _ _ 0 (by omega) hc b b s0 (Or.inl ⟨rfl, hf⟩)
  have x : Wsim 0 (w_run g d l) (w_run g d (w_wo (nI r) l)) := x
  have b1 : Wb (0 + l.length) (w_run g d l) := b1
  have b2 : Wb (0 + l.length) (w_run g d (w_wo (nI r) l)) := b2
  obtain ⟨x1, x2, x3, x4⟩ := x
  have hE := hD.2.1
  have hn2 : 0 + l.length ≤ 100 := by omega
  have q1 := dpt_b b1.1 hE
  have q2 := dpt_b b2.1 hE
  have tri := dpt_tri b2.1 b1.1 hE
  have l1 := len_i b1 hn2 hE
  have l2 := len_i b2 hn2 hE
  have k := wo_ar x2 tri b2.2.2.2.1 q2.1 b1.2.2.2.2 q1.2 hn2
  rw [← l1, ← l2] at k
  have hd := dpt_b hD.1 hE
  have ed : w_dir g d = dpt (gd g d 0, gd g d 1) (gd g d 2, gd g d 3) := (k_i hD.1 hE).symm
  rw [← ed] at hd
  refine ⟨k, fun hv => ?_⟩
  unfold w_val at hv ⊢
  rw [Bool.and_eq_true, decide_eq_true_iff] at hv ⊢
  exact ⟨x4 hv.1, wv_le k.1 k.2.1 k.2.2 hd.1 hd.2 hv.2⟩
