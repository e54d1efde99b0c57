/-- THE INVARIANT: a rider's and a driver's numbers lie in their ranges -/
def IvR (g : Nat → Int32) (r : Nat) : Prop := PIn (gr g r 0, gr g r 1) ∧ PIn (gr g r 2, gr g r 3) ∧ (0 ≤ (gr g r 4).toInt ∧ (gr g r 4).toInt ≤ 1439) ∧ (0 ≤ (gr g r 5).toInt ∧ (gr g r 5).toInt ≤ 9999)
def IvD (g : Nat → Int32) (d : Nat) : Prop := PIn (gd g d 0, gd g d 1) ∧ PIn (gd g d 2, gd g d 3) ∧ (1 ≤ (gd g d 4).toInt ∧ (gd g d 4).toInt ≤ 4) ∧ (0 ≤ (gd g d 5).toInt ∧ (gd g d 5).toInt ≤ 1439) ∧ (0 ≤ (gd g d 6).toInt ∧ (gd g d 6).toInt ≤ 400) ∧ (1 ≤ (gd g d 7).toInt ∧ (gd g d 7).toInt ≤ 99) ∧ (gd g d 8 = 0 ∨ gd g d 8 = 1)
/-- whether a stop is a rider's -/
def ofr (r : Nat) (c : Int32) : Bool := decide (i_rem c = nI r)
/-- the stops of a route by rider: pickup and drop, or none -/
def IvM (g : Nat → Int32) (d nr : Nat) (l : List Int32) : Prop := ∀ r, r < 20 → l.filter (ofr r) = if r < nr ∧ gr g r 7 = nI d then [nI r, nI (100 + r)] else []
def IvL (g : Nat → Int32) (d nr : Nat) (l : List Int32) : Prop := Rok g d l ∧ w_val g d l = true ∧ IvM g d nr l
def IvS (g : Nat → Int32) (nd r : Nat) : Prop := ((gr g r 6 = 0 ∨ gr g r 6 = 2) ∧ gr g r 7 = -1) ∨ ∃ d, d < nd ∧ gr g r 7 = nI d ∧ ((gr g r 6 = 1 ∧ gd g d 8 = 0) ∨ (gr g r 6 = 3 ∧ gd g d 8 = 1))
def Iv (g : Nat → Int32) (nd nr : Nat) : Prop := (∀ d, d < nd → IvD g d ∧ IvL g d nr (rl g d)) ∧ ∀ r, r < nr → IvR g r ∧ IvS g nd r
/-- THE BOARDS: the class's and the reference's -/
def RB (B : BS) (g : Nat → Int32) (c : Nat → Int64) : Prop := FB B g c ∧ Iv g (bnd B) (bnr B) ∧ ∀ d, d < bnd B → RtX g d (bT B d) (rl g d)
theorem ofr_c {r q : Nat} {c : Int32} (hr : r < 20) (hq : q < 20) (e : c = nI q ∨ c = nI (100 + q)) : ofr r c = decide (q = r) := by
  have e2 : i_rem c = nI q := by
    rcases e with rfl | rfl
    · exact (i_rem_c q hq).1
    · exact (i_rem_c q hq).2
  unfold ofr
  rw [e2]
  exact decide_eq_decide.mpr (nI_inj (by omega) (by omega))
theorem c_of : ∀ q, q < 20 → nI q < 100 ∧ ¬ nI (100 + q) < 100 ∧ c_num (nI q) = q ∧ c_num (nI (100 + q)) = q := by decide +kernel
theorem SCode.num {c : Int32} (h : SCode c) : c_num c < 20 ∧ (c = nI (c_num c) ∨ c = nI (100 + c_num c)) := by
  obtain ⟨q, hq, rfl | rfl⟩ := h
  · rw [(c_of q hq).2.2.1]
    exact ⟨hq, Or.inl rfl⟩
  · rw [(c_of q hq).2.2.2]
    exact ⟨hq, Or.inr rfl⟩
theorem IvM.code {g : Nat → Int32} {d nr : Nat} {l : List Int32} (h : IvM g d nr l) (hc : ∀ c, c ∈ l → SCode c) {c : Int32} (m : c ∈ l) : c_num c < nr ∧ gr g (c_num c) 7 = nI d := by
  obtain ⟨hq, e⟩ := (hc c m).num
  have m2 : c ∈ l.filter (ofr (c_num c)) := List.mem_filter.mpr ⟨m, by rw [ofr_c hq hq e]; exact decide_eq_true rfl⟩
  rw [h _ hq] at m2
  by_cases q : c_num c < nr ∧ gr g (c_num c) 7 = nI d
  · exact q
  · rw [if_neg q] at m2
    exact absurd m2 List.not_mem_nil
/-- what a stop's place and time rest on is as it was -/
def Cq (g g' : Nat → Int32) (c : Int32) : Prop := w_sx g' c = w_sx g c ∧ w_sy g' c = w_sy g c ∧ gr g' (c_num c) 4 = gr g (c_num c) 4 ∧ gr g' (c_num c) 5 = gr g (c_num c) 5
theorem Cq.of {g g' : Nat → Int32} {c : Int32} (h : ∀ f, f < 6 → gr g' (c_num c) f = gr g (c_num c) f) : Cq g g' c := by
  refine ⟨?_, ?_, h 4 (by omega), h 5 (by omega)⟩
  · unfold w_sx
    rw [h 0 (by omega), h 2 (by omega)]
  · unfold w_sy
    rw [h 1 (by omega), h 3 (by omega)]
theorem w_go_c {g g' : Nat → Int32} {d : Nat} {s : WS} {c : Int32} (hd : gd g' d 4 = gd g d 4) (q : Cq g g' c) : w_go g' d s c = w_go g d s c := by
  obtain ⟨e0, e1, e4, e5⟩ := q
  unfold w_go w_way
  rw [e0, e1, e4, e5, hd]
theorem w_fold_c {g g' : Nat → Int32} {d : Nat} (hd : gd g' d 4 = gd g d 4) : ∀ (l : List Int32) (s : WS), (∀ c, c ∈ l → Cq g g' c) → l.foldl (w_go g' d) s = l.foldl (w_go g d) s
  | [], _, _ => rfl
  | c :: l, s, h => by
    rw [List.foldl_cons, List.foldl_cons, w_go_c hd (h c List.mem_cons_self)]
    exact w_fold_c hd l _ fun c' m => h c' (List.mem_cons_of_mem _ m)
theorem w_run_c {g g' : Nat → Int32} {d : Nat} {l : List Int32} (hf : ∀ f, f < 7 → gd g' d f = gd g d f) (hl : ∀ c, c ∈ l → Cq g g' c) : w_run g' d l = w_run g d l := by
  unfold w_run
  have e : w_st g' d = w_st g d := by
    unfold w_st
    rw [hf 0 (by omega), hf 1 (by omega), hf 5 (by omega)]
  rw [e]
  exact w_fold_c (hf 4 (by omega)) l _ hl
theorem w_dir_c {g g' : Nat → Int32} {d : Nat} (hf : ∀ f, f < 7 → gd g' d f = gd g d f) : w_dir g' d = w_dir g d := by
  unfold w_dir
  rw [hf 0 (by omega), hf 1 (by omega), hf 2 (by omega), hf 3 (by omega)]
theorem w_len_c {g g' : Nat → Int32} {d : Nat} {l : List Int32} (hf : ∀ f, f < 7 → gd g' d f = gd g d f) (hl : ∀ c, c ∈ l → Cq g g' c) : w_len g' d l = w_len g d l := by
  unfold w_len w_end
  rw [w_run_c hf hl, hf 2 (by omega), hf 3 (by omega)]
theorem w_val_c {g g' : Nat → Int32} {d : Nat} {l : List Int32} (hf : ∀ f, f < 7 → gd g' d f = gd g d f) (hl : ∀ c, c ∈ l → Cq g g' c) : w_val g' d l = w_val g d l := by
  unfold w_val
  rw [w_len_c hf hl, w_run_c hf hl, w_dir_c hf, hf 6 (by omega)]
theorem RtX.c {g g' : Nat → Int32} {d : Nat} {R : RS} {l : List Int32} (h : RtX g d R l) (hf : ∀ f, f < 7 → gd g' d f = gd g d f) (hl : ∀ c, c ∈ l → Cq g g' c) : RtX g' d R l := by
  obtain ⟨h0, ⟨h1, h2⟩, ⟨h3, h4⟩, h5, h6, h7⟩ := h
  refine ⟨h0, ⟨by rw [hf 0 (by omega)]; exact h1, by rw [hf 1 (by omega)]; exact h2⟩, ⟨by rw [hf 2 (by omega)]; exact h3, by rw [hf 3 (by omega)]; exact h4⟩, h5, h6, fun i hi => ?_⟩
  obtain ⟨e0, e1, e4, e5⟩ := hl (l.getD i 0) (by
    rw [List.getD_eq_getElem?_getD, List.getElem?_eq_getElem hi]
    exact List.getElem_mem hi)
  rw [e0, e1, e4, e5]
  exact h7 i hi
theorem Rok.rlE {g : Nat → Int32} {d : Nat} {l : List Int32} (h : Rok g d l) : rl g d = l := by
  unfold rl
  rw [h.1, i_nat_nI (by have := h.2.2.1; omega)]
  exact h.2.1
theorem Rok.c2 {g g' : Nat → Int32} {d : Nat} {l : List Int32} (h : Rok g d l) (h9 : gd g' d 9 = gd g d 9) (hs : ∀ i, i < 40 → gs g' d i = gs g d i) : Rok g' d l := by
  obtain ⟨e, e1, e2, e3⟩ := h
  refine ⟨by rw [h9]; exact e, ?_, e2, e3⟩
  rw [rowL_c (f' := gs g d) fun j hj => hs j (by omega)]
  exact e1
/-- what a driver's route rests on is as it was -/
def Keep (g g' : Nat → Int32) (d nr nr' : Nat) : Prop := (∀ f, f < 10 → ¬ f = 8 → gd g' d f = gd g d f) ∧ (∀ i, i < 40 → gs g' d i = gs g d i) ∧ (∀ r, r < nr → gr g r 7 = nI d → ∀ f, f < 6 → gr g' r f = gr g r f) ∧ ∀ r, r < 20 → ((r < nr' ∧ gr g' r 7 = nI d) ↔ (r < nr ∧ gr g r 7 = nI d))
theorem Keep.f7 {g g' : Nat → Int32} {d nr nr' : Nat} (k : Keep g g' d nr nr') : ∀ f, f < 7 → gd g' d f = gd g d f := fun f h => k.1 f (by omega) (by omega)
theorem Keep.cq {g g' : Nat → Int32} {d nr nr' : Nat} {l : List Int32} (k : Keep g g' d nr nr') (h : IvL g d nr l) : ∀ c, c ∈ l → Cq g g' c := fun c m => by
  obtain ⟨a, b⟩ := h.2.2.code h.1.2.2.2 m
  exact Cq.of (k.2.2.1 _ a b)
theorem Keep.ivl {g g' : Nat → Int32} {d nr nr' : Nat} {l : List Int32} (k : Keep g g' d nr nr') (h : IvL g d nr l) : IvL g' d nr' l := by
  refine ⟨h.1.c2 (k.1 9 (by omega) (by omega)) k.2.1, ?_, fun r hr => ?_⟩
  · rw [w_val_c k.f7 (k.cq h)]
    exact h.2.1
  · rw [h.2.2 r hr]
    by_cases q : r < nr ∧ gr g r 7 = nI d
    · rw [if_pos q, if_pos ((k.2.2.2 r hr).mpr q)]
    · rw [if_neg q, if_neg fun z => q ((k.2.2.2 r hr).mp z)]
theorem Keep.rtx {g g' : Nat → Int32} {d nr nr' : Nat} {R : RS} {l : List Int32} (k : Keep g g' d nr nr') (h : IvL g d nr l) (x : RtX g d R l) : RtX g' d R l := x.c k.f7 (k.cq h)
theorem Keep.all {g g' : Nat → Int32} {d nr nr' : Nat} {R : RS} (k : Keep g g' d nr nr') (h : IvL g d nr (rl g d)) (x : RtX g d R (rl g d)) : IvL g' d nr' (rl g' d) ∧ RtX g' d R (rl g' d) := by
  have a := k.ivl h
  have e := a.1.rlE
  rw [e]
  exact ⟨a, k.rtx h x⟩
theorem IvD.c {g g' : Nat → Int32} {d : Nat} (h : IvD g d) (e : ∀ f, f < 9 → gd g' d f = gd g d f) : IvD g' d := by
  unfold IvD
  rw [e 0 (by omega), e 1 (by omega), e 2 (by omega), e 3 (by omega), e 4 (by omega), e 5 (by omega), e 6 (by omega), e 7 (by omega), e 8 (by omega)]
  exact h
theorem IvR.c {g g' : Nat → Int32} {r : Nat} (h : IvR g r) (e : ∀ f, f < 6 → gr g' r f = gr g r f) : IvR g' r := by
  unfold IvR
  rw [e 0 (by omega), e 1 (by omega), e 2 (by omega), e 3 (by omega), e 4 (by omega), e 5 (by omega)]
  exact h
/-- a board is what its 568 ints and 28 credits are -/
theorem RB.c {B : BS} {g g' : Nat → Int32} {c c' : Nat → Int64} (h : RB B g c) (e : ∀ k, k < 568 → g' k = g k) (ec : ∀ k, k < 28 → c' k = c k) : RB B g' c' := by
  obtain ⟨⟨f8, f20, g0, g1, g2, fd, fr⟩, ⟨i1, i2⟩, hx⟩ := h
  have ed : ∀ d, d < bnd B → ∀ f, f < 10 → gd g' d f = gd g d f := fun d hd f hf => e _ (by omega)
  have er : ∀ r, r < bnr B → ∀ f, f < 8 → gr g' r f = gr g r f := fun r hr f hf => e _ (by omega)
  have kp : ∀ d, d < bnd B → Keep g g' d (bnr B) (bnr B) := fun d hd => ⟨fun f hf _ => ed d hd f hf, fun i hi => e _ (by omega), fun r hr _ f hf => er r hr f (by omega), fun r _ => by
    constructor
    · intro z
      rw [er r z.1 7 (by omega)] at z
      exact z
    · intro z
      rw [er r z.1 7 (by omega)]
      exact z⟩
  refine ⟨⟨f8, f20, by rw [e 0 (by omega)]; exact g0, by rw [e 1 (by omega)]; exact g1, by rw [e 2 (by omega)]; exact g2, fun d hd => ?_, fun r hr => ?_⟩, ⟨fun d hd => ⟨(i1 d hd).1.c fun f hf => ed d hd f (by omega), ((kp d hd).all (i1 d hd).2 (hx d hd)).1⟩, fun r hr => ⟨(i2 r hr).1.c fun f hf => er r hr f (by omega), ?_⟩⟩, fun d hd => ((kp d hd).all (i1 d hd).2 (hx d hd)).2⟩
  · rw [ed d hd 4 (by omega), ed d hd 5 (by omega), ed d hd 6 (by omega), ed d hd 7 (by omega), ed d hd 8 (by omega), ec d (by omega)]
    exact fd d hd
  · rw [er r hr 0 (by omega), er r hr 1 (by omega), er r hr 2 (by omega), er r hr 3 (by omega), er r hr 4 (by omega), er r hr 5 (by omega), er r hr 6 (by omega), er r hr 7 (by omega), ec (8 + r) (by omega)]
    exact fr r hr
  · rcases (i2 r hr).2 with ⟨a, b⟩ | ⟨d, hd, a, b⟩
    · exact Or.inl ⟨by rw [er r hr 6 (by omega)]; exact a, by rw [er r hr 7 (by omega)]; exact b⟩
    · exact Or.inr ⟨d, hd, by rw [er r hr 7 (by omega)]; exact a, by rw [er r hr 6 (by omega), ed d hd 8 (by omega)]; exact b⟩
theorem IvR.pt {g : Nat → Int32} {c : Int32} (h : IvR g (c_num c)) : PIn (w_sx g c, w_sy g c) := by
  unfold w_sx w_sy
  by_cases q : c < 100
  · rw [if_pos q, if_pos q]
    exact h.1
  · rw [if_neg q, if_neg q]
    exact h.2.1
theorem RtX.rin {g : Nat → Int32} {d : Nat} {R : RS} {l : List Int32} (x : RtX g d R l) (p0 : PIn (gd g d 0, gd g d 1)) (p1 : PIn (gd g d 2, gd g d 3)) (hl : ∀ c, c ∈ l → PIn (w_sx g c, w_sy g c)) : RIn R := by
  obtain ⟨h0, ⟨a1, a2⟩, ⟨a3, a4⟩, -, -, h7⟩ := x
  intro k hk
  unfold pt
  match k, hk with
  | 0, _ =>
    rw [a1, a2]
    exact p0
  | k + 1, hk =>
    by_cases q : k = l.length
    · subst q
      rw [a3, a4]
      exact p1
    · have hi : k < l.length := by omega
      obtain ⟨-, b1, b2, -⟩ := h7 k hi
      rw [b1, b2]
      refine hl _ ?_
      rw [List.getD_eq_getElem?_getD, List.getElem?_eq_getElem hi]
      exact List.getElem_mem hi
theorem Iv.rin {g : Nat → Int32} {d nr : Nat} {R : RS} {l : List Int32} (h1 : IvD g d) (h2 : IvL g d nr l) (h3 : ∀ r, r < nr → IvR g r) (x : RtX g d R l) : RIn R := x.rin h1.1 h1.2.1 fun _ m => (h3 _ (h2.2.2.code h2.1.2.2.2 m).1).pt
theorem RB.rin {B : BS} {g : Nat → Int32} {c : Nat → Int64} (h : RB B g c) {d : Nat} (hd : d < bnd B) : RIn (bT B d) := Iv.rin (h.2.1.1 d hd).1 (h.2.1.1 d hd).2 (fun q hq => (h.2.1.2 q hq).1) (h.2.2 d hd)
theorem RB.shyp {B : BS} {g : Nat → Int32} {c : Nat → Int64} (h : RB B g c) {d r : Nat} (hd : d < bnd B) (hr : r < bnr B) : SHyp g d r (bT B d) (rl g d) (bX B r) (bD B d) := by
  obtain ⟨⟨f8, f20, g0, g1, g2, fd, fr⟩, ⟨i1, i2⟩, hx⟩ := h
  obtain ⟨iD, iL⟩ := i1 d hd
  obtain ⟨iR, -⟩ := i2 r hr
  obtain ⟨x0, x1, x2, x3, x4, x5, -⟩ := fr r hr
  obtain ⟨y4, y5, y6, -⟩ := fd d hd
  refine ⟨hx d hd, iL.1.2.2.2, by have := iL.1.2.2.1; omega, by omega, ⟨x0, x1, x2, x3, x4, x5⟩, ⟨y4, y5, y6⟩, Iv.rin iD iL (fun q hq => (i2 q hq).1) (hx d hd), ?_, ?_, ?_, ?_⟩
  · rw [← x0, ← x1]
    exact iR.1
  · rw [← x2, ← x3]
    exact iR.2.1
  · rw [← y4, Int32.le_iff_toInt_le]
    have := iD.2.2.1.1
    have e0 : (0 : Int32).toInt = 0 := rfl
    omega
  · rw [← y6]
    exact iD.2.2.2.2.1
/-- a saved state -/
def SvR (P : CS) (M : MS) (i : Nat) : Prop := (giss M i = 0 ∧ pV P i = none) ∨ (¬ giss M i = 0 ∧ ∃ s D, pV P i = some (s, D) ∧ RB D (fun k => gsav M (568 * i + k)) (fun k => gcsv M (28 * i + k)))
/-- the texts are the same; the reference's parser stands at places -/
def TkI (P : CS) (M : MS) : Prop := gtxt M = pT P ∧ ∃ p t l : Nat, mF M 23 = nI p ∧ mF M 24 = nI t ∧ mF M 26 = nI l
/-- THE RELATION of the two states -/
def Rel (P : CS) (M : MS) : Prop := RB (pB P) (gbrd M) (gcrd M) ∧ FT P M ∧ TkI P M ∧ ∀ i, i < 2 → SvR P M i
theorem Rel.hasF : HasF Rel := ⟨fun P M h => ⟨h.1.1, h.2.1⟩, fun P M v h => h⟩
theorem Rel.hasR : HasR Rel := ⟨Rel.hasF, fun P M h => ⟨rl (gbrd M), fun d hd => ⟨(h.1.2.1.1 d hd).2.1, h.1.2.2 d hd, h.1.rin hd⟩⟩⟩
theorem Rel.hasS : HasS Rel := ⟨Rel.hasF, fun P M h => ⟨rl (gbrd M), fun d hd => ⟨(h.1.2.1.1 d hd).2.1, fun r hr => h.1.shyp hd hr⟩⟩⟩
