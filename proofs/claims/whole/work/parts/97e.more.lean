theorem if_c {P Q : Nat → Bool} : ∀ f k, (∀ q, k ≤ q → q < k + f → P q = Q q) → i_first P f k = i_first Q f k
  | 0, _, _ => rfl
  | f + 1, k, e => by
    rw [i_first_s, i_first_s, e k (Nat.le_refl _) (by omega), if_c f (k + 1) fun q h1 h2 => e q (by omega) (by omega)]
/-- THE DEBTOR -/
theorem RB.dbt {B : BS} {g : Nat → Int32} {c : Nat → Int64} (h : RB B g c) (pl : Int32) : b_dbt B pl = w_dbt c (bnr B) pl := by
  have cn : ∀ r, r < bnr B → ∀ k, k ≤ bnr B → b_debt B (qcr (bX B r)) r k = i_count (d_P c r) k := by
    intro r hr k
    induction k with
    | zero => intro _; rfl
    | succ k ih =>
      intro hk
      show b_debt B (qcr (bX B r)) r k + (if c_ahead (qcr (bX B k)) k (qcr (bX B r)) r then 1 else 0) = i_count (d_P c r) k + (if d_P c r k then 1 else 0)
      rw [ih (by omega)]
      unfold d_P
      rw [(h.st hr).2.2, (h.st (r := k) (by omega)).2.2]
  unfold b_dbt w_dbt
  refine if_c _ _ fun q _ hq => ?_
  unfold d_Q
  rw [cn q (by omega) _ (Nat.le_refl _)]
/-- the direct way is no longer than the route -/
theorem dir_sim {g : Nat → Int32} {d : Nat} {a : Int32 × Int32} (ha : PIn a) : ∀ (m : List Int32) (n : Nat) (s : WS), n + m.length ≤ 100 → (∀ c, c ∈ m → Cok g c) → Wb n s → (dpt a (s.1, s.2.1)).toInt ≤ s.2.2.2.2.1.toInt → Wb (n + m.length) (m.foldl (w_go g d) s) ∧ (dpt a ((m.foldl (w_go g d) s).1, (m.foldl (w_go g d) s).2.1)).toInt ≤ (m.foldl (w_go g d) s).2.2.2.2.1.toInt
  | [], n, s, _, _, b, x => ⟨b, x⟩
  | c :: m, n, s, hn, hc, b, x => by
    rw [List.length_cons] at hn
    have c0 := hc c List.mem_cons_self
    obtain ⟨b2, ⟨p1, p2⟩, -, -, l, -⟩ := w_go_i (d := d) b (by omega) c0
    have tri := dpt_tri ha b.1 c0.1
    have e9 : n + (c :: m).length = n + 1 + m.length := by
      rw [List.length_cons]
      omega
    rw [e9, List.foldl_cons]
    refine dir_sim ha m (n + 1) _ (by omega) (fun c' m' => hc c' (List.mem_cons_of_mem _ m')) b2 ?_
    rw [p1, p2, l]
    omega
theorem det_ar {l r m p d : Int} (h1 : m ≤ l) (h2 : d ≤ m + p) (h3 : r = l + p) : d ≤ r := by omega
theorem det_v {l dr li : Int32} (b : 0 ≤ dr.toInt) (b1 : dr.toInt ≤ 198) (b2 : dr.toInt ≤ l.toInt) (b3 : l.toInt ≤ 19998) (h : l - dr ≤ li) (h4 : li.toInt ≤ 400) : (l - dr).toInt = l.toInt - dr.toInt ∧ 0 ≤ (l - dr).toInt ∧ (l - dr).toInt ≤ 400 := by
  rw [Int32.le_iff_toInt_le] at h
  have e := (sb_i (x := l) (y := dr) (by omega) (by omega) (by omega) (by omega)).1
  omega
/-- THE DETOUR lies within the limit -/
theorem RB.det {B : BS} {g : Nat → Int32} {c : Nat → Int64} (h : RB B g c) {d : Nat} (hd : d < bnd B) : (w_len g d (rl g d) - w_dir g d).toInt = (w_len g d (rl g d)).toInt - (w_dir g d).toInt ∧ 0 ≤ (w_len g d (rl g d) - w_dir g d).toInt ∧ (w_len g d (rl g d) - w_dir g d).toInt ≤ 400 ∧ 0 ≤ (w_dir g d).toInt ∧ (w_dir g d).toInt ≤ 198 := by
  obtain ⟨iD, iL⟩ := h.2.1.1 d hd
  have b := Wb.st iD
  have h40 := iL.1.2.2.1
  obtain ⟨b1, x⟩ := dir_sim (d := d) iD.1 (rl g d) 0 (w_st g d) (by omega) (iL.cok fun r hr => (h.2.1.2 r hr).1) b (by
    have := dpt_0 iD.1
    show (dpt (gd g d 0, gd g d 1) (gd g d 0, gd g d 1)).toInt ≤ (0 : Int32).toInt
    rw [this]
    decide)
  have b1 : Wb (0 + (rl g d).length) (w_run g d (rl g d)) := b1
  have x : (dpt (gd g d 0, gd g d 1) ((w_run g d (rl g d)).1, (w_run g d (rl g d)).2.1)).toInt ≤ (w_run g d (rl g d)).2.2.2.2.1.toInt := x
  have hE := iD.2.1
  have tri := dpt_tri iD.1 b1.1 hE
  have l1 := len_i b1 (by omega) hE
  have hd := dpt_b iD.1 hE
  have ed : w_dir g d = dpt (gd g d 0, gd g d 1) (gd g d 2, gd g d 3) := (k_i iD.1 hE).symm
  have k1 := det_ar x tri l1
  have q1 := dpt_b b1.1 hE
  have k2 := wo_ar (a := (w_run g d (rl g d)).2.2.2.2.1.toInt) (a' := (w_run g d (rl g d)).2.2.2.2.1.toInt) (p := (dpt ((w_run g d (rl g d)).1, (w_run g d (rl g d)).2.1) (gd g d 2, gd g d 3)).toInt) (p' := (dpt ((w_run g d (rl g d)).1, (w_run g d (rl g d)).2.1) (gd g d 2, gd g d 3)).toInt) (m := 0) (by omega) (by omega) b1.2.2.2.1 q1.1 b1.2.2.2.2 q1.2 (by omega)
  rw [← l1] at k2
  have hv := iL.2.1
  unfold w_val at hv
  rw [Bool.and_eq_true, decide_eq_true_iff] at hv
  rw [← ed] at hd k1
  have r := det_v hd.1 hd.2 k1 k2.2.2 hv.2 iD.2.2.2.2.1.2
  exact ⟨r.1, r.2.1, r.2.2, hd⟩
theorem RB.rdet {B : BS} {g : Nat → Int32} {c : Nat → Int64} (h : RB B g c) {d : Nat} (hd : d < bnd B) : r_det (bT B d) = w_len g d (rl g d) - w_dir g d ∧ r_dir (bT B d) = w_dir g d ∧ r_len (bT B d) = w_len g d (rl g d) := by
  have hc := (h.2.1.1 d hd).2.1.2.2.2
  have x := h.2.2 d hd
  have e1 := x.len (h.rin hd) hc
  have e2 := x.dir (h.rin hd)
  refine ⟨?_, e2.symm, e1.symm⟩
  unfold r_det
  rw [← e1, ← e2]
/-- the detour as a whole number -/
def δs (g : Nat → Int32) (d : Nat) : Nat := (w_len g d (rl g d) - w_dir g d).toInt.toNat
theorem RB.δ {B : BS} {g : Nat → Int32} {c : Nat → Int64} (h : RB B g c) {d : Nat} (hd : d < bnd B) : w_len g d (rl g d) - w_dir g d = nI (δs g d) ∧ δs g d ≤ 400 := by
  obtain ⟨-, a, b, -⟩ := h.det hd
  unfold δs
  refine ⟨Int32.toInt_inj.mp ?_, by omega⟩
  rw [ixn (by omega)]
  omega
theorem RB.δ0 {B : BS} {g : Nat → Int32} {c : Nat → Int64} (h : RB B g c) {d : Nat} (hd : d < bnd B) (h0 : i_count (inP g d) (bnr B) = 0) : δs g d = 0 := by
  obtain ⟨-, -, -, e⟩ := h.half hd
  have e2 : rl g d = [] := List.eq_nil_of_length_eq_zero (by omega)
  unfold δs
  rw [e2]
  have e3 : w_len g d [] = w_dir g d := by
    show (0 : Int32) + w_dir g d = w_dir g d
    exact Int32.zero_add _
  rw [e3, Int32.sub_self]
  rfl
theorem nI_pos9 {n : Nat} (h : n < 1000) : 0 < nI n ↔ 0 < n := by
  rw [Int32.lt_iff_toInt_lt, ixn (by omega)]
  have e0 : (0 : Int32).toInt = 0 := rfl
  omega
theorem nI_le9 {n : Nat} (h : n < 1000) : nI n ≤ 0 ↔ n = 0 := by
  rw [Int32.le_iff_toInt_le, ixn (by omega)]
  have e0 : (0 : Int32).toInt = 0 := rfl
  omega
theorem RB.sums {B : BS} {g : Nat → Int32} {c : Nat → Int64} (h : RB B g c) : ∀ k, k ≤ bnd B → b_cntTo B k = md_c g k ∧ b_sumTo B k = nI (md_s g (δs g) k) ∧ md_c g k ≤ k ∧ md_s g (δs g) k ≤ 400 * k ∧ (md_c g k = 0 → md_s g (δs g) k = 0)
  | 0, _ => ⟨rfl, rfl, Nat.le_refl _, Nat.le_refl _, fun _ => rfl⟩
  | k + 1, hk => by
    obtain ⟨i1, i2, i3, i4, i5⟩ := RB.sums h k (by omega)
    obtain ⟨f1, f2, f3, f4⟩ := h.half (d := k) (by omega)
    obtain ⟨d1, d2⟩ := h.δ (d := k) (by omega)
    have d0 := h.δ0 (d := k) (by omega)
    have r := (h.rdet (d := k) (by omega)).1
    have e1 : b_cntTo B (k + 1) = b_cntTo B k + if (nI (rn (bT B k)) - 2) / 2 ≤ 0 then 0 else 1 := rfl
    have e2 : b_sumTo B (k + 1) = b_sumTo B k + r_det (bT B k) := rfl
    have e3 : md_c g (k + 1) = if 0 < gd g k 9 then md_c g k + 1 else md_c g k := rfl
    have e4 : md_s g (δs g) (k + 1) = if 0 < gd g k 9 then md_s g (δs g) k + δs g k else md_s g (δs g) k := rfl
    rw [e1, e2, e3, e4, i1, i2, r, d1, nI_add, f1, f2]
    by_cases z : i_count (inP g k) (bnr B) = 0
    · rw [if_pos ((nI_le9 (by omega)).mpr z), if_neg (fun w => by have := (nI_pos9 (by omega)).mp w; omega), if_neg (fun w => by have := (nI_pos9 (by omega)).mp w; omega), d0 z]
      exact ⟨rfl, rfl, by omega, by omega, i5⟩
    · rw [if_neg (fun w => z ((nI_le9 (by omega)).mp w)), if_pos ((nI_pos9 (by omega)).mpr (by omega)), if_pos ((nI_pos9 (by omega)).mpr (by omega))]
      exact ⟨rfl, rfl, by omega, by omega, fun w => absurd w (by omega)⟩
theorem rem0 {a b : Nat} (ha : a < 100000) (hb : 0 < b) (hb2 : b < 100000) : nI a - nI a / nI b * nI b = 0 ↔ a % b = 0 := by
  have e : nI a - nI a / nI b * nI b = nI (a % b) := pk_rem (by omega) (by omega) (by omega)
  have hm := Nat.mod_lt a hb
  rw [e]
  constructor
  · intro z
    exact (nI_inj (by omega) (by omega)).mp (z.trans (show (0 : Int32) = nI 0 from rfl))
  · intro z
    rw [z]
    rfl
theorem cd_gcd {s m : Nat} (hs : s < 100000) (hm : 0 < m) (hm2 : m < 1000) : ∀ k, Nat.gcd s m ≤ k → k ≤ m → i_cd (nI s) (nI m) k = nI (Nat.gcd s m)
  | 0, h, _ => by
    have := Nat.gcd_pos_of_pos_right s hm
    omega
  | k + 1, h, hk => by
    have gp := Nat.gcd_pos_of_pos_right s hm
    have e : i_cd (nI s) (nI m) (k + 1) = if k = 0 then 1 else if nI s - nI s / nI (k + 1) * nI (k + 1) = 0 ∧ nI m - nI m / nI (k + 1) * nI (k + 1) = 0 then nI (k + 1) else i_cd (nI s) (nI m) k := rfl
    rw [e]
    by_cases z : k = 0
    · rw [if_pos z, show Nat.gcd s m = 1 by omega]
      rfl
    · rw [if_neg z]
      by_cases y : s % (k + 1) = 0 ∧ m % (k + 1) = 0
      · rw [if_pos ⟨(rem0 hs (by omega) (by omega)).mpr y.1, (rem0 (by omega) (by omega) (by omega)).mpr y.2⟩]
        have dv := Nat.dvd_gcd (Nat.dvd_of_mod_eq_zero y.1) (Nat.dvd_of_mod_eq_zero y.2)
        have := Nat.le_of_dvd gp dv
        rw [show Nat.gcd s m = k + 1 by omega]
      · rw [if_neg fun w => y ⟨(rem0 hs (by omega) (by omega)).mp w.1, (rem0 (by omega) (by omega) (by omega)).mp w.2⟩]
        refine cd_gcd hs hm hm2 k ?_ (by omega)
        rcases Nat.lt_or_ge (Nat.gcd s m) (k + 1) with w | w
        · omega
        · exfalso
          have eg : Nat.gcd s m = k + 1 := by omega
          refine y ⟨?_, ?_⟩
          · rw [← eg]
            exact Nat.mod_eq_zero_of_dvd (Nat.gcd_dvd_left s m)
          · rw [← eg]
            exact Nat.mod_eq_zero_of_dvd (Nat.gcd_dvd_right s m)
/-- THE MEAN DETOUR -/
theorem RB.mean {B : BS} {g : Nat → Int32} {c : Nat → Int64} (h : RB B g c) : b_num B = w_mean g (δs g) (bnd B) true ∧ b_den B = w_mean g (δs g) (bnd B) false := by
  have h8 := h.1.1
  obtain ⟨i1, i2, i3, i4, i5⟩ := h.sums (bnd B) (Nat.le_refl _)
  have ec : b_cnt B = md_c g (bnd B) := i1
  have es : b_sum B = nI (md_s g (δs g) (bnd B)) := i2
  unfold b_num b_den w_mean
  rw [ec, es]
  generalize md_c g (bnd B) = m at *
  generalize md_s g (δs g) (bnd B) = s at *
  by_cases z : m = 0
  · have s0 := i5 z
    rw [if_pos z, if_pos z, s0, if_pos rfl, if_pos rfl]
    exact ⟨rfl, rfl⟩
  · have gp := Nat.gcd_pos_of_pos_right s (n := m) (by omega)
    have gl := Nat.gcd_le_right (n := m) s (by omega)
    rw [if_neg z, if_neg z, cd_gcd (s := s) (m := m) (by omega) (by omega) (by omega) m gl (Nat.le_refl _)]
    have d1 : nI s / nI (Nat.gcd s m) = nI (s / Nat.gcd s m) := pk_div (by omega) (by omega) (by omega)
    have d2 : nI m / nI (Nat.gcd s m) = nI (m / Nat.gcd s m) := pk_div (by omega) (by omega) (by omega)
    rw [d1, d2]
    by_cases y : s = 0
    · rw [if_pos y, if_pos y, y, Nat.zero_div, Nat.gcd_zero_left, Nat.div_self (by omega)]
      exact ⟨rfl, rfl⟩
    · rw [if_neg y, if_neg y]
      exact ⟨rfl, rfl⟩
/-- a copy of a board -/
theorem RB.beq {O B : BS} {g : Nat → Int32} {c : Nat → Int64} (h : RB O g c) (e : Beq O B) : RB B g c := by
  obtain ⟨⟨e0, e1, e2, e3⟩, e4⟩ := e
  obtain ⟨⟨f8, f20, g0, g1, g2, fd, fr⟩, ⟨i1, i2⟩, hx⟩ := h
  refine ⟨⟨by omega, by omega, by rw [e2]; exact g0, by rw [e0]; exact g1, by rw [e1]; exact g2, fun d hd => ?_, fun r hr => ?_⟩, ⟨fun d hd => ?_, fun r hr => ?_⟩, fun d hd => ?_⟩
  · rw [e0] at hd
    rw [(e3 d hd).1]
    exact fd d hd
  · rw [e1] at hr
    rw [e4 r hr]
    exact fr r hr
  · rw [e0] at hd
    rw [e1]
    exact i1 d hd
  · rw [e1] at hr
    rw [e0]
    exact i2 r hr
  · rw [e0] at hd
    exact (hx d hd).req (e3 d hd).2
