def sumN (f : Nat → Nat) : Nat → Nat
  | 0 => 0
  | k + 1 => sumN f k + f k
theorem sumN_add (f h : Nat → Nat) : ∀ k, sumN (fun r => f r + h r) k = sumN f k + sumN h k
  | 0 => rfl
  | k + 1 => by
    have ih := sumN_add f h k
    show sumN (fun r => f r + h r) k + (f k + h k) = (sumN f k + f k) + (sumN h k + h k)
    omega
theorem sumN_c {f h : Nat → Nat} : ∀ k, (∀ r, r < k → f r = h r) → sumN f k = sumN h k
  | 0, _ => rfl
  | k + 1, e => by
    show sumN f k + f k = sumN h k + h k
    rw [sumN_c k fun r hr => e r (by omega), e k (by omega)]
theorem sumN_one (q : Nat) : ∀ k, sumN (fun r => if q = r then 1 else 0) k = if q < k then 1 else 0
  | 0 => rfl
  | k + 1 => by
    show sumN (fun r => if q = r then 1 else 0) k + (if q = k then 1 else 0) = _
    rw [sumN_one q k]
    rcases Nat.lt_trichotomy q k with h | h | h
    · rw [if_pos h, if_neg (by omega), if_pos (by omega)]
    · rw [if_neg (by omega), if_pos h, if_pos (by omega)]
    · rw [if_neg (by omega), if_neg (by omega), if_neg (by omega)]
theorem sumN_0 : ∀ k, sumN (fun _ => 0) k = 0
  | 0 => rfl
  | k + 1 => by
    show sumN (fun _ => 0) k + 0 = 0
    rw [sumN_0 k]
theorem len_sum : ∀ (l : List Int32), (∀ c, c ∈ l → SCode c) → l.length = sumN (fun r => (l.filter (ofr r)).length) 20
  | [], _ => (sumN_0 20).symm
  | c :: l, h => by
    obtain ⟨hq, e⟩ := (h c List.mem_cons_self).num
    have ih := len_sum l fun c' m => h c' (List.mem_cons_of_mem _ m)
    have e2 : sumN (fun r => ((c :: l).filter (ofr r)).length) 20 = sumN (fun r => (if c_num c = r then 1 else 0) + (l.filter (ofr r)).length) 20 := sumN_c 20 fun r hr => by
      rw [List.filter_cons, ofr_c hr hq e]
      by_cases z : c_num c = r
      · rw [decide_eq_true z, if_pos rfl, if_pos z, List.length_cons]
        omega
      · rw [decide_eq_false z, if_neg (by decide), if_neg z]
        omega
    rw [e2, sumN_add, sumN_one, if_pos hq, ← ih, List.length_cons]
    omega
theorem sumN_cnt (P : Nat → Bool) (nr : Nat) : ∀ k, sumN (fun r => if r < nr ∧ P r = true then 2 else 0) k = 2 * i_count P (if k < nr then k else nr)
  | 0 => by
    show 0 = _
    by_cases h : 0 < nr
    · rw [if_pos h]
      rfl
    · rw [if_neg h, show nr = 0 by omega]
      rfl
  | k + 1 => by
    show sumN (fun r => if r < nr ∧ P r = true then 2 else 0) k + (if k < nr ∧ P k = true then 2 else 0) = _
    rw [sumN_cnt P nr k]
    by_cases h : k < nr
    · rw [if_pos h]
      have e : (if k + 1 < nr then k + 1 else nr) = k + 1 := by
        by_cases h2 : k + 1 < nr
        · rw [if_pos h2]
        · rw [if_neg h2]
          omega
      rw [e]
      show _ = 2 * (i_count P k + if P k then 1 else 0)
      by_cases p : P k = true
      · rw [if_pos ⟨h, p⟩, if_pos p]
        omega
      · rw [if_neg (fun z => p z.2), if_neg p]
        omega
    · rw [if_neg h, if_neg (fun z => h z.1), if_neg (by omega)]
      omega
/-- a route has two stops for each of its riders -/
theorem IvM.len {g : Nat → Int32} {d nr : Nat} {l : List Int32} (h : IvM g d nr l) (hc : ∀ c, c ∈ l → SCode c) (h20 : nr ≤ 20) : l.length = 2 * i_count (inP g d) nr := by
  have e : sumN (fun r => (l.filter (ofr r)).length) 20 = sumN (fun r => if r < nr ∧ inP g d r = true then 2 else 0) 20 := sumN_c 20 fun r hr => by
    rw [h r hr]
    by_cases q : r < nr ∧ gr g r 7 = nI d
    · rw [if_pos q, if_pos ⟨q.1, decide_eq_true q.2⟩]
      rfl
    · rw [if_neg q, if_neg fun z => q ⟨z.1, of_decide_eq_true z.2⟩]
      rfl
  rw [len_sum l hc, e, sumN_cnt]
  by_cases z : 20 < nr
  · omega
  · rw [if_neg z]
theorem ic_le (P : Nat → Bool) : ∀ k, i_count P k ≤ k
  | 0 => Nat.le_refl _
  | k + 1 => by
    have := ic_le P k
    show i_count P k + (if P k then 1 else 0) ≤ k + 1
    by_cases p : P k = true
    · rw [if_pos p]
      omega
    · rw [if_neg p]
      omega
theorem ic_lt (P : Nat → Bool) {r : Nat} (h : P r = false) : ∀ k, r < k → i_count P k + 1 ≤ k
  | 0, z => absurd z (by omega)
  | k + 1, z => by
    show i_count P k + (if P k then 1 else 0) + 1 ≤ k + 1
    by_cases e : r = k
    · subst e
      have := ic_le P r
      rw [if_neg (by rw [h]; decide)]
      omega
    · have := ic_lt P h k (by omega)
      by_cases p : P k = true
      · rw [if_pos p]
        omega
      · rw [if_neg p]
        omega
theorem IvL.l38 {g : Nat → Int32} {d nr : Nat} {l : List Int32} (h : IvL g d nr l) (h20 : nr ≤ 20) {r : Nat} (hr : r < nr) (hn : ¬ gr g r 7 = nI d) : l.length ≤ 38 := by
  have e := h.2.2.len h.1.2.2.2 h20
  have := ic_lt (inP g d) (r := r) (decide_eq_false hn) nr hr
  omega
theorem w_lay_q {l : List Int32} {r i j q : Nat} (hr : r < 20) (hq : q < 20) (ne : ¬ q = r) : ∀ k, (w_lay l r i j k).filter (ofr q) = (l.take k).filter (ofr q)
  | 0 => rfl
  | k + 1 => by
    have e : w_lay l r i j (k + 1) = w_lay l r i j k ++ ((if k = i then [nI r] else []) ++ ((if k = j then [nI (100 + r)] else []) ++ (if k < l.length then [l.getD k 0] else []))) := rfl
    have e1 : (if k = i then [nI r] else []).filter (ofr q) = [] := by
      by_cases z : k = i
      · rw [if_pos z, List.filter_cons, ofr_c hq hr (Or.inl rfl), decide_eq_false (fun z => ne z.symm)]
        rfl
      · rw [if_neg z]
        rfl
    have e2 : (if k = j then [nI (100 + r)] else []).filter (ofr q) = [] := by
      by_cases z : k = j
      · rw [if_pos z, List.filter_cons, ofr_c hq hr (Or.inr rfl), decide_eq_false (fun z => ne z.symm)]
        rfl
      · rw [if_neg z]
        rfl
    rw [e, List.filter_append, List.filter_append, List.filter_append, w_lay_q hr hq ne k, e1, e2, List.nil_append, List.nil_append]
    by_cases h : k < l.length
    · rw [tk_s l h, List.filter_append, if_pos h]
    · rw [if_neg h, List.take_of_length_le (by omega), List.take_of_length_le (by omega)]
      exact List.append_nil _
theorem w_ins_q {l : List Int32} {r i j q : Nat} (hr : r < 20) (hq : q < 20) (ne : ¬ q = r) : (w_ins l r i j).filter (ofr q) = l.filter (ofr q) := by
  unfold w_ins
  rw [w_lay_q hr hq ne, List.take_of_length_le (by omega)]
theorem w_lay_r {l : List Int32} {r i j : Nat} (hr : r < 20) (hij : i ≤ j) (h0 : l.filter (ofr r) = []) : ∀ k, (w_lay l r i j k).filter (ofr r) = (if i < k then [nI r] else []) ++ (if j < k then [nI (100 + r)] else [])
  | 0 => rfl
  | k + 1 => by
    have e : w_lay l r i j (k + 1) = w_lay l r i j k ++ ((if k = i then [nI r] else []) ++ ((if k = j then [nI (100 + r)] else []) ++ (if k < l.length then [l.getD k 0] else []))) := rfl
    have e1 : (if k = i then [nI r] else []).filter (ofr r) = if k = i then [nI r] else [] := by
      by_cases z : k = i
      · rw [if_pos z, List.filter_cons, ofr_c hr hr (Or.inl rfl), decide_eq_true rfl]
        rfl
      · rw [if_neg z]
        rfl
    have e2 : (if k = j then [nI (100 + r)] else []).filter (ofr r) = if k = j then [nI (100 + r)] else [] := by
      by_cases z : k = j
      · rw [if_pos z, List.filter_cons, ofr_c hr hr (Or.inr rfl), decide_eq_true rfl]
        rfl
      · rw [if_neg z]
        rfl
    have e3 : (if k < l.length then [l.getD k 0] else []).filter (ofr r) = [] := by
      by_cases z : k < l.length
      · rw [if_pos z, List.filter_cons, if_neg]
        · rfl
        · have m : l.getD k 0 ∈ l := by
            rw [List.getD_eq_getElem?_getD, List.getElem?_eq_getElem z]
            exact List.getElem_mem z
          exact List.filter_eq_nil_iff.mp h0 _ m
      · rw [if_neg z]
        rfl
    rw [e, List.filter_append, List.filter_append, List.filter_append, w_lay_r hr hij h0 k, e1, e2, e3, List.append_nil]
    by_cases a : k = i
    · rw [if_pos a, if_neg (show ¬ i < k by omega), if_neg (show ¬ j < k by omega), if_pos (show i < k + 1 by omega)]
      by_cases b : k = j
      · rw [if_pos b, if_pos (by omega)]
        rfl
      · rw [if_neg b, if_neg (by omega)]
        rfl
    · rw [if_neg a]
      have s : (if i < k + 1 then [nI r] else []) = if i < k then [nI r] else [] := by
        by_cases z : i < k
        · rw [if_pos z, if_pos (by omega)]
        · rw [if_neg z, if_neg (by omega)]
      rw [s, List.nil_append]
      by_cases b : k = j
      · rw [if_pos b, if_neg (show ¬ j < k by omega), if_pos (show j < k + 1 by omega), List.append_nil]
      · rw [if_neg b, List.append_nil]
        have s : (if j < k + 1 then [nI (100 + r)] else []) = if j < k then [nI (100 + r)] else [] := by
          by_cases z : j < k
          · rw [if_pos z, if_pos (by omega)]
          · rw [if_neg z, if_neg (by omega)]
        rw [s]
theorem w_ins_r {l : List Int32} {r i j : Nat} (hr : r < 20) (hij : i ≤ j) (hj : j ≤ l.length) (h0 : l.filter (ofr r) = []) : (w_ins l r i j).filter (ofr r) = [nI r, nI (100 + r)] := by
  unfold w_ins
  rw [w_lay_r hr hij h0, if_pos (by omega), if_pos (by omega)]
  rfl
/-- what the search has found is valid -/
def FV (g : Nat → Int32) (d r : Nat) (l : List Int32) (s : SS) : Prop := s.1 = 1000000000 ∨ (w_val g d (w_ins l r s.2.1 s.2.2) = true ∧ s.2.1 ≤ s.2.2 ∧ s.2.2 ≤ l.length)
theorem FV.go {g : Nat → Int32} {d r : Nat} {l : List Int32} {s : SS} (q : FV g d r l s) {i j : Nat} (hij : i ≤ j) (hj : j ≤ l.length) : FV g d r l (f_go g d r l s i j) := by
  unfold f_go
  by_cases z : (w_val g d (w_ins l r i j) && decide (w_len g d (w_ins l r i j) < s.1)) = true
  · rw [if_pos z]
    rw [Bool.and_eq_true] at z
    exact Or.inr ⟨z.1, hij, hj⟩
  · rw [if_neg z]
    exact q
theorem FV.inn {g : Nat → Int32} {d r : Nat} {l : List Int32} {s : SS} (q : FV g d r l s) (i : Nat) : ∀ m, i + m ≤ l.length + 1 → FV g d r l (f_in g d r l s i m)
  | 0, _ => q
  | m + 1, hm => FV.go (FV.inn q i m (by omega)) (by omega) (by omega)
theorem FV.out {g : Nat → Int32} {d r : Nat} {l : List Int32} : ∀ i, i ≤ l.length + 1 → FV g d r l (f_out g d r l i)
  | 0, _ => Or.inl rfl
  | i + 1, hi => FV.inn (FV.out i (by omega)) i (l.length + 1 - i) (by omega)
theorem FV.find (g : Nat → Int32) (d r : Nat) (l : List Int32) : FV g d r l (f_find g d r l) := FV.out _ (Nat.le_refl _)
