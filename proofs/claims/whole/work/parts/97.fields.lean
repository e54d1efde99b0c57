theorem ux_s {f : Nat → Int32} {k : Nat} {x : Int32} : upd f k x k = x := if_pos rfl
theorem ux_n {f : Nat → Int32} {k j : Nat} {x : Int32} (h : ¬ j = k) : upd f k x j = f j := if_neg h
theorem ul_s {f : Nat → Int64} {k : Nat} {x : Int64} : vp_updL f k x k = x := if_pos rfl
theorem ul_n {f : Nat → Int64} {k j : Nat} {x : Int64} (h : ¬ j = k) : vp_updL f k x j = f j := if_neg h
/-- a board whose penalty alone is another -/
theorem RB.pen {B : BS} {g g' : Nat → Int32} {c c' : Nat → Int64} (h : RB B g c) {v : Int32} (e0 : g' 0 = v) (e : ∀ k, 0 < k → k < 568 → g' k = g k) (ec : ∀ k, k < 28 → c' k = c k) : RB (b_head B (bnd B) (bnr B) v) g' c' := by
  obtain ⟨⟨f8, f20, g0, g1, g2, fd, fr⟩, ⟨i1, i2⟩, hx⟩ := h
  have ed : ∀ d, d < bnd B → ∀ f, f < 10 → gd g' d f = gd g d f := fun d hd f hf => e _ (by omega) (by omega)
  have er : ∀ r, r < bnr B → ∀ f, f < 8 → gr g' r f = gr g r f := fun r hr f hf => e _ (by omega) (by omega)
  have kp : ∀ d, d < bnd B → Keep g g' d (bnr B) (bnr B) := fun d hd => ⟨fun f hf _ => ed d hd f hf, fun i hi => e _ (by omega) (by omega), fun r hr _ f hf => er r hr f (by omega), fun r _ => by
    constructor
    · intro z
      rw [er r z.1 7 (by omega)] at z
      exact z
    · intro z
      rw [er r z.1 7 (by omega)]
      exact z⟩
  refine ⟨⟨f8, f20, e0, (e 1 (by omega) (by omega)).trans g1, (e 2 (by omega) (by omega)).trans g2, fun d hd => ?_, fun r hr => ?_⟩, ⟨fun d hd => ⟨(i1 d hd).1.c fun f hf => ed d hd f (by omega), ((kp d hd).all (i1 d hd).2 (hx d hd)).1⟩, fun r hr => ⟨(i2 r hr).1.c fun f hf => er r hr f (by omega), ?_⟩⟩, fun d hd => ((kp d hd).all (i1 d hd).2 (hx d hd)).2⟩
  · have hd : d < bnd B := hd
    rw [ed d hd 4 (by omega), ed d hd 5 (by omega), ed d hd 6 (by omega), ed d hd 7 (by omega), ed d hd 8 (by omega), ec d (by omega)]
    exact fd d hd
  · have hr : r < bnr B := hr
    rw [er r hr 0 (by omega), er r hr 1 (by omega), er r hr 2 (by omega), er r hr 3 (by omega), er r hr 4 (by omega), er r hr 5 (by omega), er r hr 6 (by omega), er r hr 7 (by omega), ec (8 + r) (by omega)]
    exact fr r hr
  · rcases (i2 r hr).2 with ⟨a, b⟩ | ⟨d, hd, a, b⟩
    · exact Or.inl ⟨by rw [er r hr 6 (by omega)]; exact a, by rw [er r hr 7 (by omega)]; exact b⟩
    · exact Or.inr ⟨d, hd, by rw [er r hr 7 (by omega)]; exact a, by rw [er r hr 6 (by omega), ed d hd 8 (by omega)]; exact b⟩
/-- a rider's credit -/
theorem RB.crR {B : BS} {g : Nat → Int32} {c : Nat → Int64} (h : RB B g c) {r : Nat} (hr : r < bnr B) {v : Int64} {Y : RdS} (hY : Y = x_cr (bX B r) v) : RB (b_setX B r Y) g (vp_updL c (8 + r) v) := by
  obtain ⟨⟨f8, f20, g0, g1, g2, fd, fr⟩, iv, hx⟩ := h
  refine ⟨⟨f8, f20, g0, g1, g2, fun d hd => ?_, fun q hq => ?_⟩, iv, hx⟩
  · have hd : d < bnd B := hd
    rw [ul_n (show ¬ d = 8 + r by omega)]
    exact fd d hd
  · have hq : q < bnr B := hq
    by_cases z : q = r
    · subst z
      have e : bX (b_setX B q Y) q = Y := vf_s _ _ _
      rw [e, hY, ul_s]
      obtain ⟨x0, x1, x2, x3, x4, x5, x6, x7, x8⟩ := fr q hq
      exact ⟨x0, x1, x2, x3, x4, x5, x6, x7, rfl⟩
    · have e : bX (b_setX B r Y) q = bX B q := vf_n _ _ z
      rw [e, ul_n (by omega)]
      exact fr q hq
/-- a driver's credit -/
theorem RB.crD {B : BS} {g : Nat → Int32} {c : Nat → Int64} (h : RB B g c) {d : Nat} (hd : d < bnd B) {v : Int64} {Y : DS} (hY : Y = d_cr (bD B d) v) : RB (b_setD B d Y) g (vp_updL c d v) := by
  obtain ⟨⟨f8, f20, g0, g1, g2, fd, fr⟩, iv, hx⟩ := h
  refine ⟨⟨f8, f20, g0, g1, g2, fun e he => ?_, fun q hq => ?_⟩, iv, hx⟩
  · have he : e < bnd B := he
    by_cases z : e = d
    · subst z
      have e9 : bD (b_setD B e Y) e = Y := vf_s _ _ _
      rw [e9, hY, ul_s]
      obtain ⟨x0, x1, x2, x3, x4, x5⟩ := fd e he
      exact ⟨x0, x1, x2, x3, x4, rfl⟩
    · have e9 : bD (b_setD B d Y) e = bD B e := vf_n _ _ z
      rw [e9, ul_n z]
      exact fd e he
  · have hq : q < bnr B := hq
    rw [ul_n (show ¬ 8 + q = d by omega)]
    exact fr q hq
/-- an absent rider comes back -/
theorem RB.cb {B : BS} {g : Nat → Int32} {c : Nat → Int64} (h : RB B g c) {r : Nat} (hr : r < bnr B) (h6 : gr g r 6 = 2) : RB (b_setX B r (x_st (bX B r) 0)) (upd g (408 + 8 * r + 6) 0) c := by
  obtain ⟨⟨f8, f20, g0, g1, g2, fd, fr⟩, ⟨i1, i2⟩, hx⟩ := h
  have n7 : gr g r 7 = -1 := by
    rcases (i2 r hr).2 with ⟨-, b⟩ | ⟨d, hd, a, ⟨b, -⟩ | ⟨b, -⟩⟩
    · exact b
    · rw [h6] at b
      exact absurd b (by decide)
    · rw [h6] at b
      exact absurd b (by decide)
  have ed : ∀ d, d < bnd B → ∀ f, f < 10 → gd (upd g (408 + 8 * r + 6) 0) d f = gd g d f := fun d hd f hf => ux_n (by omega)
  have er : ∀ q f, f < 8 → ¬ (q = r ∧ f = 6) → gr (upd g (408 + 8 * r + 6) 0) q f = gr g q f := fun q f hf n => ux_n (by omega)
  have kp : ∀ d, d < bnd B → Keep g (upd g (408 + 8 * r + 6) 0) d (bnr B) (bnr B) := fun d hd => ⟨fun f hf _ => ed d hd f hf, fun i hi => ux_n (by omega), fun q _ _ f hf => er q f (by omega) (by omega), fun q _ => by rw [er q 7 (by omega) (by omega)]⟩
  refine ⟨⟨f8, f20, (ux_n (by omega)).trans g0, (ux_n (by omega)).trans g1, (ux_n (by omega)).trans g2, fun d hd => ?_, fun q hq => ?_⟩, ⟨fun d hd => ⟨(i1 d hd).1.c fun f hf => ed d hd f (by omega), ((kp d hd).all (i1 d hd).2 (hx d hd)).1⟩, fun q hq => ⟨(i2 q hq).1.c fun f hf => er q f (by omega) (by omega), ?_⟩⟩, fun d hd => ((kp d hd).all (i1 d hd).2 (hx d hd)).2⟩
  · have hd : d < bnd B := hd
    rw [ed d hd 4 (by omega), ed d hd 5 (by omega), ed d hd 6 (by omega), ed d hd 7 (by omega), ed d hd 8 (by omega)]
    exact fd d hd
  · have hq : q < bnr B := hq
    obtain ⟨x0, x1, x2, x3, x4, x5, x6, x7, x8⟩ := fr q hq
    rw [er q 0 (by omega) (by omega), er q 1 (by omega) (by omega), er q 2 (by omega) (by omega), er q 3 (by omega) (by omega), er q 4 (by omega) (by omega), er q 5 (by omega) (by omega), er q 7 (by omega) (by omega)]
    by_cases z : q = r
    · subst z
      have e : bX (b_setX B q (x_st (bX B q) 0)) q = x_st (bX B q) 0 := vf_s _ _ _
      rw [e]
      exact ⟨x0, x1, x2, x3, x4, x5, ux_s, x7, x8⟩
    · have e : bX (b_setX B r (x_st (bX B r) 0)) q = bX B q := vf_n _ _ z
      rw [e, er q 6 (by omega) (by omega)]
      exact ⟨x0, x1, x2, x3, x4, x5, x6, x7, x8⟩
  · have hq : q < bnr B := hq
    by_cases z : q = r
    · subst z
      exact Or.inl ⟨Or.inl ux_s, by rw [er q 7 (by omega) (by omega)]; exact n7⟩
    · rcases (i2 q hq).2 with ⟨a, b⟩ | ⟨d, hd, a, b⟩
      · exact Or.inl ⟨by rw [er q 6 (by omega) (by omega)]; exact a, by rw [er q 7 (by omega) (by omega)]; exact b⟩
      · exact Or.inr ⟨d, hd, by rw [er q 7 (by omega) (by omega)]; exact a, by rw [er q 6 (by omega) (by omega), ed d hd 8 (by omega)]; exact b⟩
theorem w_val_nil {g : Nat → Int32} {d : Nat} (h : IvD g d) : w_val g d [] = true := by
  have e : w_len g d [] = w_dir g d := by
    show (0 : Int32) + w_dir g d = w_dir g d
    exact Int32.zero_add _
  unfold w_val
  rw [e, Int32.sub_self]
  have h6 : (0 : Int32) ≤ gd g d 6 := by
    rw [Int32.le_iff_toInt_le]
    have := h.2.2.2.2.1.1
    have e0 : (0 : Int32).toInt = 0 := rfl
    omega
  rw [decide_eq_true h6]
  rfl
theorem IvL.nil {g : Nat → Int32} {d nr : Nat} (hD : IvD g d) (h9 : gd g d 9 = 0) (hn : ∀ r, r < 20 → ¬ (r < nr ∧ gr g r 7 = nI d)) : IvL g d nr [] := ⟨⟨h9, Rsu.nil g d⟩, w_val_nil hD, fun r hr => by rw [if_neg (hn r hr)]; rfl⟩
theorem RtX.beg {g : Nat → Int32} {d : Nat} {R : RS} {sx sy ex ey : Int32} (h0 : gd g d 0 = sx) (h1 : gd g d 1 = sy) (h2 : gd g d 2 = ex) (h3 : gd g d 3 = ey) : RtX g d (r_begin R sx sy ex ey) [] := ⟨rfl, ⟨h0.symm, h1.symm⟩, ⟨h2.symm, h3.symm⟩, rfl, rfl, fun i hi => absurd hi (Nat.not_lt_zero _)⟩
theorem i_rng {v l u : Int32} (h : b_in v l u = true) : l.toInt ≤ v.toInt ∧ v.toInt ≤ u.toInt := b_in_i.mp h
/-- a driver more: the numbers that load or addDriver give -/
theorem RB.newD {B B' : BS} {g g' : Nat → Int32} {c c' : Nat → Int64} (h : RB B g c) (h8 : bnd B < 8) {se de li ra sx sy ex ey : Int32} {T : RS} (hse : b_in se 1 4 = true) (hde : b_in de 0 1439 = true) (hli : b_in li 0 400 = true) (hra : b_in ra 1 99 = true) (hs : b_pl sx sy = true) (he : b_pl ex ey = true)
    (e0 : gd g' (bnd B) 0 = sx) (e1 : gd g' (bnd B) 1 = sy) (e2 : gd g' (bnd B) 2 = ex) (e3 : gd g' (bnd B) 3 = ey) (e4 : gd g' (bnd B) 4 = se) (e5 : gd g' (bnd B) 5 = de) (e6 : gd g' (bnd B) 6 = li) (e7 : gd g' (bnd B) 7 = ra) (e8 : gd g' (bnd B) 8 = 0) (e9 : gd g' (bnd B) 9 = 0) (ec : c' (bnd B) = 0) (g1' : g' 1 = nI (bnd B + 1))
    (eg : ∀ k, k < 568 → ¬ k = 1 → ¬ (8 + 10 * bnd B ≤ k ∧ k < 8 + 10 * bnd B + 10) → g' k = g k) (ecn : ∀ k, k < 28 → ¬ k = bnd B → c' k = c k) (hT : T = r_begin (r_begin (bT B (bnd B)) 0 0 0 0) sx sy ex ey ∨ (T = r_begin (bT B (bnd B)) sx sy ex ey))
    (hB : B' = (bnd B + 1, bnr B, bpe B, vf_upd (bD B) (bnd B) (se, de, li, ra, false, 0), vf_upd (bT B) (bnd B) T, bX B)) : RB B' g' c' := by
  subst hB
  obtain ⟨⟨f8, f20, g0, g1, g2, fd, fr⟩, ⟨i1, i2⟩, hx⟩ := h
  have ed : ∀ d, d < bnd B → ∀ f, f < 10 → gd g' d f = gd g d f := fun d hd f hf => eg _ (by omega) (by omega) (by omega)
  have er : ∀ r, r < 20 → ∀ f, f < 8 → gr g' r f = gr g r f := fun r hr f hf => eg _ (by omega) (by omega) (by omega)
  have kp : ∀ d, d < bnd B → Keep g g' d (bnr B) (bnr B) := fun d hd => ⟨fun f hf _ => ed d hd f hf, fun i hi => eg _ (by omega) (by omega) (by omega), fun r hr _ f hf => er r (by omega) f (by omega), fun r hr => by rw [er r hr 7 (by omega)]⟩
  have hD : IvD g' (bnd B) := by
    unfold IvD
    rw [e0, e1, e2, e3, e4, e5, e6, e7, e8]
    exact ⟨PIn.of hs, PIn.of he, i_rng hse, i_rng hde, i_rng hli, i_rng hra, Or.inl rfl⟩
  have hL : IvL g' (bnd B) (bnr B) [] := IvL.nil hD e9 fun r hr z => by
    have z2 := z.2
    rw [er r hr 7 (by omega)] at z2
    rcases (i2 r z.1).2 with ⟨-, b⟩ | ⟨d, hd, a, -⟩
    · exact nI_ne_m1 (a := bnd B) (by omega) (by rw [← z2]; exact b)
    · have := (nI_inj (by omega) (by omega)).mp (a.symm.trans z2)
      omega
  have hX : RtX g' (bnd B) T [] := by
    rcases hT with rfl | rfl
    · exact RtX.beg e0 e1 e2 e3
    · exact RtX.beg e0 e1 e2 e3
  refine ⟨⟨?_, f20, ?_, g1', ?_, fun d hd => ?_, fun r hr => ?_⟩, ⟨fun d hd => ?_, fun r hr => ?_⟩, fun d hd => ?_⟩
  · show bnd B + 1 ≤ 8
    omega
  · exact (eg 0 (by omega) (by omega) (by omega)).trans g0
  · exact (eg 2 (by omega) (by omega) (by omega)).trans g2
  · have hd : d < bnd B + 1 := hd
    by_cases z : d = bnd B
    · subst z
      show _ ∧ _ ∧ _ ∧ _ ∧ _ ∧ _
      have e : vf_upd (bD B) (bnd B) (se, de, li, ra, false, 0) (bnd B) = (se, de, li, ra, false, 0) := vf_s _ _ _
      show gd g' (bnd B) 4 = dse (vf_upd (bD B) (bnd B) (se, de, li, ra, false, 0) (bnd B)) ∧ gd g' (bnd B) 5 = dde (vf_upd (bD B) (bnd B) (se, de, li, ra, false, 0) (bnd B)) ∧ gd g' (bnd B) 6 = dli (vf_upd (bD B) (bnd B) (se, de, li, ra, false, 0) (bnd B)) ∧ gd g' (bnd B) 7 = dra (vf_upd (bD B) (bnd B) (se, de, li, ra, false, 0) (bnd B)) ∧ gd g' (bnd B) 8 = bI (ddo (vf_upd (bD B) (bnd B) (se, de, li, ra, false, 0) (bnd B))) ∧ c' (bnd B) = dcr (vf_upd (bD B) (bnd B) (se, de, li, ra, false, 0) (bnd B))
      rw [e]
      exact ⟨e4, e5, e6, e7, e8, ec⟩
    · have e : vf_upd (bD B) (bnd B) (se, de, li, ra, false, 0) d = bD B d := vf_n _ _ z
      have q := fd d (by omega)
      rw [← ed d (by omega) 4 (by omega), ← ed d (by omega) 5 (by omega), ← ed d (by omega) 6 (by omega), ← ed d (by omega) 7 (by omega), ← ed d (by omega) 8 (by omega), ← ecn d (by omega) z, ← e] at q
      exact q
  · have hr : r < bnr B := hr
    rw [er r (by omega) 0 (by omega), er r (by omega) 1 (by omega), er r (by omega) 2 (by omega), er r (by omega) 3 (by omega), er r (by omega) 4 (by omega), er r (by omega) 5 (by omega), er r (by omega) 6 (by omega), er r (by omega) 7 (by omega), ecn (8 + r) (by omega) (by omega)]
    exact fr r hr
  · have hd : d < bnd B + 1 := hd
    by_cases z : d = bnd B
    · subst z
      rw [hL.1.rlE]
      exact ⟨hD, hL⟩
    · have hd : d < bnd B := by omega
      exact ⟨(i1 d hd).1.c fun f hf => ed d hd f (by omega), ((kp d hd).all (i1 d hd).2 (hx d hd)).1⟩
  · have hr : r < bnr B := hr
    refine ⟨(i2 r hr).1.c fun f hf => er r (by omega) f (by omega), ?_⟩
    rcases (i2 r hr).2 with ⟨a, b⟩ | ⟨d, hd, a, b⟩
    · exact Or.inl ⟨by rw [er r (by omega) 6 (by omega)]; exact a, by rw [er r (by omega) 7 (by omega)]; exact b⟩
    · exact Or.inr ⟨d, by show d < bnd B + 1; omega, by rw [er r (by omega) 7 (by omega)]; exact a, by rw [er r (by omega) 6 (by omega), ed d hd 8 (by omega)]; exact b⟩
  · have hd : d < bnd B + 1 := hd
    by_cases z : d = bnd B
    · subst z
      have e : vf_upd (bT B) (bnd B) T (bnd B) = T := vf_s _ _ _
      show RtX g' (bnd B) (vf_upd (bT B) (bnd B) T (bnd B)) _
      rw [hL.1.rlE, e]
      exact hX
    · have hd : d < bnd B := by omega
      have e : vf_upd (bT B) (bnd B) T d = bT B d := vf_n _ _ z
      show RtX g' d (vf_upd (bT B) (bnd B) T d) _
      rw [e]
      exact ((kp d hd).all (i1 d hd).2 (hx d hd)).2
/-- a rider more -/
theorem RB.newR {B B' : BS} {g g' : Nat → Int32} {c c' : Nat → Int64} (h : RB B g c) (h20 : bnr B < 20) {fx fy tx ty rd dl : Int32} (hs : b_pl fx fy = true) (he : b_pl tx ty = true) (hrd : b_in rd 0 1439 = true) (hdl : b_in dl 0 9999 = true)
    (e0 : gr g' (bnr B) 0 = fx) (e1 : gr g' (bnr B) 1 = fy) (e2 : gr g' (bnr B) 2 = tx) (e3 : gr g' (bnr B) 3 = ty) (e4 : gr g' (bnr B) 4 = rd) (e5 : gr g' (bnr B) 5 = dl) (e6 : gr g' (bnr B) 6 = 0) (e7 : gr g' (bnr B) 7 = -1) (ec : c' (8 + bnr B) = 0) (g2' : g' 2 = nI (bnr B + 1))
    (eg : ∀ k, k < 568 → ¬ k = 2 → ¬ (408 + 8 * bnr B ≤ k ∧ k < 408 + 8 * bnr B + 8) → g' k = g k) (ecn : ∀ k, k < 28 → ¬ k = 8 + bnr B → c' k = c k)
    (hB : B' = (bnd B, bnr B + 1, bpe B, bD B, bT B, vf_upd (bX B) (bnr B) (fx, fy, tx, ty, rd, dl, 0, -1, 0))) : RB B' g' c' := by
  subst hB
  obtain ⟨⟨f8, f20, g0, g1, g2, fd, fr⟩, ⟨i1, i2⟩, hx⟩ := h
  have ed : ∀ d, d < bnd B → ∀ f, f < 10 → gd g' d f = gd g d f := fun d hd f hf => eg _ (by omega) (by omega) (by omega)
  have er : ∀ r, r < bnr B → ∀ f, f < 8 → gr g' r f = gr g r f := fun r hr f hf => eg _ (by omega) (by omega) (by omega)
  have kp : ∀ d, d < bnd B → Keep g g' d (bnr B) (bnr B + 1) := fun d hd => ⟨fun f hf _ => ed d hd f hf, fun i hi => eg _ (by omega) (by omega) (by omega), fun r hr _ f hf => er r hr f (by omega), fun r hr => by
    by_cases z : r = bnr B
    · subst z
      refine ⟨fun y => absurd (e7.symm.trans y.2) (fun w => nI_ne_m1 (a := d) (by omega) w.symm), fun y => absurd y.1 (by omega)⟩
    · by_cases y : r < bnr B
      · rw [er r y 7 (by omega)]
        exact ⟨fun w => ⟨y, w.2⟩, fun w => ⟨by omega, w.2⟩⟩
      · exact ⟨fun w => absurd w.1 (by omega), fun w => absurd w.1 y⟩⟩
  refine ⟨⟨f8, ?_, ?_, ?_, g2', fun d hd => ?_, fun r hr => ?_⟩, ⟨fun d hd => ?_, fun r hr => ?_⟩, fun d hd => ?_⟩
  · show bnr B + 1 ≤ 20
    omega
  · exact (eg 0 (by omega) (by omega) (by omega)).trans g0
  · exact (eg 1 (by omega) (by omega) (by omega)).trans g1
  · have hd : d < bnd B := hd
    rw [ed d hd 4 (by omega), ed d hd 5 (by omega), ed d hd 6 (by omega), ed d hd 7 (by omega), ed d hd 8 (by omega), ecn d (by omega) (by omega)]
    exact fd d hd
  · have hr : r < bnr B + 1 := hr
    by_cases z : r = bnr B
    · subst z
      have e : vf_upd (bX B) (bnr B) (fx, fy, tx, ty, rd, dl, 0, -1, 0) (bnr B) = (fx, fy, tx, ty, rd, dl, 0, -1, 0) := vf_s _ _ _
      rw [e0, e1, e2, e3, e4, e5, e6, e7, ec]
      show fx = qfx (vf_upd (bX B) (bnr B) (fx, fy, tx, ty, rd, dl, 0, -1, 0) (bnr B)) ∧ fy = qfy (vf_upd (bX B) (bnr B) (fx, fy, tx, ty, rd, dl, 0, -1, 0) (bnr B)) ∧ tx = qtx (vf_upd (bX B) (bnr B) (fx, fy, tx, ty, rd, dl, 0, -1, 0) (bnr B)) ∧ ty = qty (vf_upd (bX B) (bnr B) (fx, fy, tx, ty, rd, dl, 0, -1, 0) (bnr B)) ∧ rd = qrd (vf_upd (bX B) (bnr B) (fx, fy, tx, ty, rd, dl, 0, -1, 0) (bnr B)) ∧ dl = qdl (vf_upd (bX B) (bnr B) (fx, fy, tx, ty, rd, dl, 0, -1, 0) (bnr B)) ∧ 0 = qst (vf_upd (bX B) (bnr B) (fx, fy, tx, ty, rd, dl, 0, -1, 0) (bnr B)) ∧ -1 = qdr (vf_upd (bX B) (bnr B) (fx, fy, tx, ty, rd, dl, 0, -1, 0) (bnr B)) ∧ 0 = qcr (vf_upd (bX B) (bnr B) (fx, fy, tx, ty, rd, dl, 0, -1, 0) (bnr B))
      rw [e]
      exact ⟨rfl, rfl, rfl, rfl, rfl, rfl, rfl, rfl, rfl⟩
    · have hr : r < bnr B := by omega
      have e : vf_upd (bX B) (bnr B) (fx, fy, tx, ty, rd, dl, 0, -1, 0) r = bX B r := vf_n _ _ z
      have q := fr r hr
      rw [← er r hr 0 (by omega), ← er r hr 1 (by omega), ← er r hr 2 (by omega), ← er r hr 3 (by omega), ← er r hr 4 (by omega), ← er r hr 5 (by omega), ← er r hr 6 (by omega), ← er r hr 7 (by omega), ← ecn (8 + r) (by omega) (by omega), ← e] at q
      exact q
  · have hd : d < bnd B := hd
    exact ⟨(i1 d hd).1.c fun f hf => ed d hd f (by omega), ((kp d hd).all (i1 d hd).2 (hx d hd)).1⟩
  · have hr : r < bnr B + 1 := hr
    by_cases z : r = bnr B
    · subst z
      refine ⟨?_, Or.inl ⟨Or.inl e6, e7⟩⟩
      unfold IvR
      rw [e0, e1, e2, e3, e4, e5]
      exact ⟨PIn.of hs, PIn.of he, i_rng hrd, i_rng hdl⟩
    · have hr : r < bnr B := by omega
      refine ⟨(i2 r hr).1.c fun f hf => er r hr f (by omega), ?_⟩
      rcases (i2 r hr).2 with ⟨a, b⟩ | ⟨d, hd, a, b⟩
      · exact Or.inl ⟨by rw [er r hr 6 (by omega)]; exact a, by rw [er r hr 7 (by omega)]; exact b⟩
      · exact Or.inr ⟨d, hd, by rw [er r hr 7 (by omega)]; exact a, by rw [er r hr 6 (by omega), ed d hd 8 (by omega)]; exact b⟩
  · have hd : d < bnd B := hd
    exact ((kp d hd).all (i1 d hd).2 (hx d hd)).2
/-- a trip set anew -/
theorem RB.trip {B : BS} {g : Nat → Int32} {c : Nat → Int64} (h : RB B g c) {d : Nat} (hd : d < bnd B) {sx sy ex ey : Int32} (hs : b_pl sx sy = true) (he : b_pl ex ey = true) (h9 : rl g d = []) : RB (b_setT B d (r_begin (bT B d) sx sy ex ey)) (a_tripG g d sx sy ex ey) c ∧ w_dir (a_tripG g d sx sy ex ey) d = r_dir (r_begin (bT B d) sx sy ex ey) := by
  obtain ⟨⟨f8, f20, g0, g1, g2, fd, fr⟩, ⟨i1, i2⟩, hx⟩ := h
  have eg : ∀ k, k < 568 → ¬ (8 + 10 * d ≤ k ∧ k < 8 + 10 * d + 4) → a_tripG g d sx sy ex ey k = g k := fun k _ n => by
    unfold a_tripG
    rw [ux_n (by omega), ux_n (by omega), ux_n (by omega), ux_n (by omega)]
  have e0 : gd (a_tripG g d sx sy ex ey) d 0 = sx := by
    show a_tripG g d sx sy ex ey (8 + 10 * d + 0) = sx
    unfold a_tripG
    rw [ux_n (by omega), ux_n (by omega), ux_n (by omega), ux_s]
  have e1 : gd (a_tripG g d sx sy ex ey) d 1 = sy := by
    show a_tripG g d sx sy ex ey (8 + 10 * d + 1) = sy
    unfold a_tripG
    rw [ux_n (by omega), ux_n (by omega), ux_s]
  have e2 : gd (a_tripG g d sx sy ex ey) d 2 = ex := by
    show a_tripG g d sx sy ex ey (8 + 10 * d + 2) = ex
    unfold a_tripG
    rw [ux_n (by omega), ux_s]
  have e3 : gd (a_tripG g d sx sy ex ey) d 3 = ey := ux_s
  have ed : ∀ e, e < bnd B → ∀ f, f < 10 → ¬ (e = d ∧ f < 4) → gd (a_tripG g d sx sy ex ey) e f = gd g e f := fun e he f hf n => eg _ (by omega) (by omega)
  have er : ∀ r, r < 20 → ∀ f, f < 8 → gr (a_tripG g d sx sy ex ey) r f = gr g r f := fun r hr f hf => eg _ (by omega) (by omega)
  have kp : ∀ e, e < bnd B → ¬ e = d → Keep g (a_tripG g d sx sy ex ey) e (bnr B) (bnr B) := fun e he ne => ⟨fun f hf _ => ed e he f hf (by omega), fun i hi => eg _ (by omega) (by omega), fun r hr _ f hf => er r (by omega) f (by omega), fun r hr => by rw [er r hr 7 (by omega)]⟩
  obtain ⟨⟨d0, d1, d2⟩, iL⟩ := i1 d hd
  rw [h9] at iL
  have hD : IvD (a_tripG g d sx sy ex ey) d := by
    unfold IvD
    rw [e0, e1, e2, e3, ed d hd 4 (by omega) (by omega), ed d hd 5 (by omega) (by omega), ed d hd 6 (by omega) (by omega), ed d hd 7 (by omega) (by omega), ed d hd 8 (by omega) (by omega)]
    exact ⟨PIn.of hs, PIn.of he, d2⟩
  have hL : IvL (a_tripG g d sx sy ex ey) d (bnr B) [] := IvL.nil hD (by rw [ed d hd 9 (by omega) (by omega)]; exact iL.1.1) fun r hr z => by
    rw [er r hr 7 (by omega)] at z
    have := iL.2.2 r hr
    rw [if_pos z] at this
    exact absurd this (by simp)
  have hX : RtX (a_tripG g d sx sy ex ey) d (r_begin (bT B d) sx sy ex ey) [] := RtX.beg e0 e1 e2 e3
  refine ⟨⟨⟨f8, f20, (eg 0 (by omega) (by omega)).trans g0, (eg 1 (by omega) (by omega)).trans g1, (eg 2 (by omega) (by omega)).trans g2, fun e he => ?_, fun r hr => ?_⟩, ⟨fun e he => ?_, fun r hr => ?_⟩, fun e he => ?_⟩, hX.dir (hX.rin hD.1 hD.2.1 fun _ m => absurd m List.not_mem_nil)⟩
  · have he : e < bnd B := he
    rw [ed e he 4 (by omega) (by omega), ed e he 5 (by omega) (by omega), ed e he 6 (by omega) (by omega), ed e he 7 (by omega) (by omega), ed e he 8 (by omega) (by omega)]
    exact fd e he
  · have hr : r < bnr B := hr
    rw [er r (by omega) 0 (by omega), er r (by omega) 1 (by omega), er r (by omega) 2 (by omega), er r (by omega) 3 (by omega), er r (by omega) 4 (by omega), er r (by omega) 5 (by omega), er r (by omega) 6 (by omega), er r (by omega) 7 (by omega)]
    exact fr r hr
  · have he : e < bnd B := he
    by_cases z : e = d
    · subst z
      rw [hL.1.rlE]
      exact ⟨hD, hL⟩
    · exact ⟨(i1 e he).1.c fun f hf => ed e he f (by omega) (by omega), ((kp e he z).all (i1 e he).2 (hx e he)).1⟩
  · have hr : r < bnr B := hr
    refine ⟨(i2 r hr).1.c fun f hf => er r (by omega) f (by omega), ?_⟩
    rcases (i2 r hr).2 with ⟨a, b⟩ | ⟨e, he, a, b⟩
    · exact Or.inl ⟨by rw [er r (by omega) 6 (by omega)]; exact a, by rw [er r (by omega) 7 (by omega)]; exact b⟩
    · exact Or.inr ⟨e, he, by rw [er r (by omega) 7 (by omega)]; exact a, by rw [er r (by omega) 6 (by omega), ed e he 8 (by omega) (by omega)]; exact b⟩
  · have he : e < bnd B := he
    by_cases z : e = d
    · subst z
      have e9 : bT (b_setT B e (r_begin (bT B e) sx sy ex ey)) e = r_begin (bT B e) sx sy ex ey := vf_s _ _ _
      rw [hL.1.rlE, e9]
      exact hX
    · have e9 : bT (b_setT B d (r_begin (bT B d) sx sy ex ey)) e = bT B e := vf_n _ _ z
      rw [e9]
      exact ((kp e he z).all (i1 e he).2 (hx e he)).2
